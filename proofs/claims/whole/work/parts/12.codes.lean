def ma_tkb (ft : FieldType) (fk : Nat) (fz : Bool) : Bool := match ft with
  | .int => fk == 0 && fz == false
  | .boolean => fk == 0 && fz == true
  | .object _ => fk == 2
  | .array _ => fk == 2
  | _ => false
theorem ma_tkb_s {ft : FieldType} {fk : Nat} {fz : Bool} (h : ma_tkb ft fk fz = true) : ma_tk ft fk fz := by
  unfold ma_tkb at h
  split at h
  · rw [Bool.and_eq_true, beq_iff_eq, beq_iff_eq] at h
    exact Or.inl ⟨rfl, h⟩
  · rw [Bool.and_eq_true, beq_iff_eq, beq_iff_eq] at h
    exact Or.inr (Or.inl ⟨rfl, h⟩)
  · exact Or.inr (Or.inr ⟨beq_iff_eq.mp h, Or.inl ⟨_, rfl⟩⟩)
  · exact Or.inr (Or.inr ⟨beq_iff_eq.mp h, Or.inr ⟨_, rfl⟩⟩)
  · cases h
def ma_cw (mid : Nat) : Cond := .code (ma_y mid) (ma_b mid) (ma_mL mid) (ma_r mid)
theorem ma_cw0 : ma_cw 0 ∈ ma_W := ma_W_i (i := 245) (by decide +kernel) rfl
theorem ma_cw1 : ma_cw 1 ∈ ma_W := ma_W_i (i := 331) (by decide +kernel) rfl
theorem ma_cw2 : ma_cw 2 ∈ ma_W := ma_W_i (i := 328) (by decide +kernel) rfl
theorem ma_cw3 : ma_cw 3 ∈ ma_W := ma_W_i (i := 63) (by decide +kernel) rfl
theorem ma_cw4 : ma_cw 4 ∈ ma_W := ma_W_i (i := 230) (by decide +kernel) rfl
theorem ma_cw5 : ma_cw 5 ∈ ma_W := ma_W_i (i := 259) (by decide +kernel) rfl
theorem ma_cw6 : ma_cw 6 ∈ ma_W := ma_W_i (i := 275) (by decide +kernel) rfl
theorem ma_cw7 : ma_cw 7 ∈ ma_W := ma_W_i (i := 299) (by decide +kernel) rfl
theorem ma_cw8 : ma_cw 8 ∈ ma_W := ma_W_i (i := 418) (by decide +kernel) rfl
theorem ma_cw9 : ma_cw 9 ∈ ma_W := ma_W_i (i := 234) (by decide +kernel) rfl
theorem ma_cw10 : ma_cw 10 ∈ ma_W := ma_W_i (i := 251) (by decide +kernel) rfl
theorem ma_cw11 : ma_cw 11 ∈ ma_W := ma_W_i (i := 263) (by decide +kernel) rfl
theorem ma_cw12 : ma_cw 12 ∈ ma_W := ma_W_i (i := 238) (by decide +kernel) rfl
theorem ma_cw13 : ma_cw 13 ∈ ma_W := ma_W_i (i := 112) (by decide +kernel) rfl
theorem ma_cw14 : ma_cw 14 ∈ ma_W := ma_W_i (i := 306) (by decide +kernel) rfl
theorem ma_cw15 : ma_cw 15 ∈ ma_W := ma_W_i (i := 295) (by decide +kernel) rfl
theorem ma_cw16 : ma_cw 16 ∈ ma_W := ma_W_i (i := 341) (by decide +kernel) rfl
theorem ma_cw17 : ma_cw 17 ∈ ma_W := ma_W_i (i := 303) (by decide +kernel) rfl
theorem ma_cw18 : ma_cw 18 ∈ ma_W := ma_W_i (i := 345) (by decide +kernel) rfl
theorem ma_cw19 : ma_cw 19 ∈ ma_W := ma_W_i (i := 310) (by decide +kernel) rfl
theorem ma_cw20 : ma_cw 20 ∈ ma_W := ma_W_i (i := 313) (by decide +kernel) rfl
theorem ma_cw21 : ma_cw 21 ∈ ma_W := ma_W_i (i := 320) (by decide +kernel) rfl
theorem ma_cw22 : ma_cw 22 ∈ ma_W := ma_W_i (i := 324) (by decide +kernel) rfl
theorem ma_cw23 : ma_cw 23 ∈ ma_W := ma_W_i (i := 334) (by decide +kernel) rfl
theorem ma_cw24 : ma_cw 24 ∈ ma_W := ma_W_i (i := 132) (by decide +kernel) rfl
theorem ma_cw25 : ma_cw 25 ∈ ma_W := ma_W_i (i := 370) (by decide +kernel) rfl
theorem ma_cw26 : ma_cw 26 ∈ ma_W := ma_W_i (i := 375) (by decide +kernel) rfl
theorem ma_cw27 : ma_cw 27 ∈ ma_W := ma_W_i (i := 380) (by decide +kernel) rfl
theorem ma_cw28 : ma_cw 28 ∈ ma_W := ma_W_i (i := 385) (by decide +kernel) rfl
theorem ma_cw29 : ma_cw 29 ∈ ma_W := ma_W_i (i := 392) (by decide +kernel) rfl
theorem ma_cw30 : ma_cw 30 ∈ ma_W := ma_W_i (i := 143) (by decide +kernel) rfl
theorem ma_cw31 : ma_cw 31 ∈ ma_W := ma_W_i (i := 452) (by decide +kernel) rfl
theorem ma_cw32 : ma_cw 32 ∈ ma_W := ma_W_i (i := 456) (by decide +kernel) rfl
theorem ma_cw33 : ma_cw 33 ∈ ma_W := ma_W_i (i := 461) (by decide +kernel) rfl
theorem ma_cw34 : ma_cw 34 ∈ ma_W := ma_W_i (i := 465) (by decide +kernel) rfl
theorem ma_cw35 : ma_cw 35 ∈ ma_W := ma_W_i (i := 469) (by decide +kernel) rfl
theorem ma_cw36 : ma_cw 36 ∈ ma_W := ma_W_i (i := 163) (by decide +kernel) rfl
theorem ma_cw37 : ma_cw 37 ∈ ma_W := ma_W_i (i := 486) (by decide +kernel) rfl
theorem ma_cw38 : ma_cw 38 ∈ ma_W := ma_W_i (i := 490) (by decide +kernel) rfl
theorem ma_cw39 : ma_cw 39 ∈ ma_W := ma_W_i (i := 494) (by decide +kernel) rfl
theorem ma_cw40 : ma_cw 40 ∈ ma_W := ma_W_i (i := 55) (by decide +kernel) rfl
theorem ma_cw41 : ma_cw 41 ∈ ma_W := ma_W_i (i := 226) (by decide +kernel) rfl
theorem ma_cw42 : ma_cw 42 ∈ ma_W := ma_W_i (i := 242) (by decide +kernel) rfl
theorem ma_cw43 : ma_cw 43 ∈ ma_W := ma_W_i (i := 255) (by decide +kernel) rfl
theorem ma_cw44 : ma_cw 44 ∈ ma_W := ma_W_i (i := 267) (by decide +kernel) rfl
theorem ma_cw45 : ma_cw 45 ∈ ma_W := ma_W_i (i := 271) (by decide +kernel) rfl
theorem ma_cw46 : ma_cw 46 ∈ ma_W := ma_W_i (i := 279) (by decide +kernel) rfl
theorem ma_cw47 : ma_cw 47 ∈ ma_W := ma_W_i (i := 283) (by decide +kernel) rfl
theorem ma_cw48 : ma_cw 48 ∈ ma_W := ma_W_i (i := 291) (by decide +kernel) rfl
theorem ma_cw49 : ma_cw 49 ∈ ma_W := ma_W_i (i := 349) (by decide +kernel) rfl
theorem ma_cw50 : ma_cw 50 ∈ ma_W := ma_W_i (i := 357) (by decide +kernel) rfl
theorem ma_cw51 : ma_cw 51 ∈ ma_W := ma_W_i (i := 397) (by decide +kernel) rfl
theorem ma_cw52 : ma_cw 52 ∈ ma_W := ma_W_i (i := 401) (by decide +kernel) rfl
theorem ma_cw53 : ma_cw 53 ∈ ma_W := ma_W_i (i := 414) (by decide +kernel) rfl
theorem ma_cw54 : ma_cw 54 ∈ ma_W := ma_W_i (i := 422) (by decide +kernel) rfl
theorem ma_cw55 : ma_cw 55 ∈ ma_W := ma_W_i (i := 437) (by decide +kernel) rfl
theorem ma_cw56 : ma_cw 56 ∈ ma_W := ma_W_i (i := 444) (by decide +kernel) rfl
theorem ma_cw57 : ma_cw 57 ∈ ma_W := ma_W_i (i := 448) (by decide +kernel) rfl
theorem ma_cw58 : ma_cw 58 ∈ ma_W := ma_W_i (i := 473) (by decide +kernel) rfl
theorem ma_cw59 : ma_cw 59 ∈ ma_W := ma_W_i (i := 502) (by decide +kernel) rfl
theorem ma_cw60 : ma_cw 60 ∈ ma_W := ma_W_i (i := 506) (by decide +kernel) rfl
theorem ma_cw61 : ma_cw 61 ∈ ma_W := ma_W_i (i := 287) (by decide +kernel) rfl
theorem ma_cw62 : ma_cw 62 ∈ ma_W := ma_W_i (i := 353) (by decide +kernel) rfl
theorem ma_cw63 : ma_cw 63 ∈ ma_W := ma_W_i (i := 410) (by decide +kernel) rfl
theorem ma_cw64 : ma_cw 64 ∈ ma_W := ma_W_i (i := 405) (by decide +kernel) rfl
theorem ma_cw65 : ma_cw 65 ∈ ma_W := ma_W_i (i := 361) (by decide +kernel) rfl
theorem ma_cw66 : ma_cw 66 ∈ ma_W := ma_W_i (i := 366) (by decide +kernel) rfl
theorem ma_cw67 : ma_cw 67 ∈ ma_W := ma_W_i (i := 426) (by decide +kernel) rfl
theorem ma_cw68 : ma_cw 68 ∈ ma_W := ma_W_i (i := 433) (by decide +kernel) rfl
theorem ma_cw69 : ma_cw 69 ∈ ma_W := ma_W_i (i := 430) (by decide +kernel) rfl
theorem ma_cw70 : ma_cw 70 ∈ ma_W := ma_W_i (i := 477) (by decide +kernel) rfl
theorem ma_cw71 : ma_cw 71 ∈ ma_W := ma_W_i (i := 482) (by decide +kernel) rfl
theorem ma_cw72 : ma_cw 72 ∈ ma_W := ma_W_i (i := 511) (by decide +kernel) rfl
theorem ma_cw73 : ma_cw 73 ∈ ma_W := ma_W_i (i := 610) (by decide +kernel) rfl
theorem ma_cw74 : ma_cw 74 ∈ ma_W := ma_W_i (i := 619) (by decide +kernel) rfl
theorem ma_cw75 : ma_cw 75 ∈ ma_W := ma_W_i (i := 631) (by decide +kernel) rfl
theorem ma_cw76 : ma_cw 76 ∈ ma_W := ma_W_i (i := 643) (by decide +kernel) rfl
theorem ma_cw77 : ma_cw 77 ∈ ma_W := ma_W_i (i := 603) (by decide +kernel) rfl
theorem ma_cw78 : ma_cw 78 ∈ ma_W := ma_W_i (i := 599) (by decide +kernel) rfl
theorem ma_cw79 : ma_cw 79 ∈ ma_W := ma_W_i (i := 607) (by decide +kernel) rfl
theorem ma_cw80 : ma_cw 80 ∈ ma_W := ma_W_i (i := 615) (by decide +kernel) rfl
theorem ma_cw81 : ma_cw 81 ∈ ma_W := ma_W_i (i := 623) (by decide +kernel) rfl
theorem ma_cw82 : ma_cw 82 ∈ ma_W := ma_W_i (i := 627) (by decide +kernel) rfl
theorem ma_cw83 : ma_cw 83 ∈ ma_W := ma_W_i (i := 635) (by decide +kernel) rfl
theorem ma_cw84 : ma_cw 84 ∈ ma_W := ma_W_i (i := 639) (by decide +kernel) rfl
theorem ma_cw85 : ma_cw 85 ∈ ma_W := ma_W_i (i := 651) (by decide +kernel) rfl
theorem ma_cw86 : ma_cw 86 ∈ ma_W := ma_W_i (i := 674) (by decide +kernel) rfl
theorem ma_cw87 : ma_cw 87 ∈ ma_W := ma_W_i (i := 679) (by decide +kernel) rfl
theorem ma_cw88 : ma_cw 88 ∈ ma_W := ma_W_i (i := 667) (by decide +kernel) rfl
theorem ma_cw89 : ma_cw 89 ∈ ma_W := ma_W_i (i := 659) (by decide +kernel) rfl
theorem ma_cw90 : ma_cw 90 ∈ ma_W := ma_W_i (i := 671) (by decide +kernel) rfl
theorem ma_cw91 : ma_cw 91 ∈ ma_W := ma_W_i (i := 663) (by decide +kernel) rfl
theorem ma_cw92 : ma_cw 92 ∈ ma_W := ma_W_i (i := 655) (by decide +kernel) rfl
theorem ma_cw93 : ma_cw 93 ∈ ma_W := ma_W_i (i := 691) (by decide +kernel) rfl
theorem ma_cw94 : ma_cw 94 ∈ ma_W := ma_W_i (i := 647) (by decide +kernel) rfl
theorem ma_cw95 : ma_cw 95 ∈ ma_W := ma_W_i (i := 683) (by decide +kernel) rfl
theorem ma_cw96 : ma_cw 96 ∈ ma_W := ma_W_i (i := 687) (by decide +kernel) rfl
theorem ma_cw97 : ma_cw 97 ∈ ma_W := ma_W_i (i := 696) (by decide +kernel) rfl
theorem ma_cw98 : ma_cw 98 ∈ ma_W := ma_W_i (i := 700) (by decide +kernel) rfl
theorem ma_cw99 : ma_cw 99 ∈ ma_W := ma_W_i (i := 705) (by decide +kernel) rfl
theorem ma_cw100 : ma_cw 100 ∈ ma_W := ma_W_i (i := 710) (by decide +kernel) rfl
theorem ma_cw101 : ma_cw 101 ∈ ma_W := ma_W_i (i := 722) (by decide +kernel) rfl
theorem ma_cw102 : ma_cw 102 ∈ ma_W := ma_W_i (i := 718) (by decide +kernel) rfl
theorem ma_cw103 : ma_cw 103 ∈ ma_W := ma_W_i (i := 714) (by decide +kernel) rfl
theorem ma_cw104 : ma_cw 104 ∈ ma_W := ma_W_i (i := 727) (by decide +kernel) rfl
theorem ma_cw105 : ma_cw 105 ∈ ma_W := ma_W_i (i := 735) (by decide +kernel) rfl
theorem ma_cw106 : ma_cw 106 ∈ ma_W := ma_W_i (i := 739) (by decide +kernel) rfl
theorem ma_cw107 : ma_cw 107 ∈ ma_W := ma_W_i (i := 731) (by decide +kernel) rfl
theorem ma_cw108 : ma_cw 108 ∈ ma_W := ma_W_i (i := 747) (by decide +kernel) rfl
theorem ma_cw109 : ma_cw 109 ∈ ma_W := ma_W_i (i := 751) (by decide +kernel) rfl
theorem ma_cw110 : ma_cw 110 ∈ ma_W := ma_W_i (i := 743) (by decide +kernel) rfl
theorem ma_cw111 : ma_cw 111 ∈ ma_W := ma_W_i (i := 755) (by decide +kernel) rfl
theorem ma_cw112 : ma_cw 112 ∈ ma_W := ma_W_i (i := 759) (by decide +kernel) rfl
theorem ma_cw114 : ma_cw 114 ∈ ma_W := ma_W_i (i := 337) (by decide +kernel) rfl
def ma_nL : Nat := 113
theorem ma_oc : Cond.code objectInit ⟨#[0xb1]⟩ 1 none ∈ ma_W := ma_W_i (i := 58) (by decide +kernel) rfl
theorem ma_mn : Cond.code Lib.Math.min.name Lib.Math.min.code 2 (some .int) ∈ ma_W := ma_W_i (i := 498) (by decide +kernel) rfl
theorem ma_mx : Cond.code Lib.Math.max.name Lib.Math.max.code 2 (some .int) ∈ ma_W := ma_W_i (i := 440) (by decide +kernel) rfl
theorem ma_cw_in {mid : Nat} (h : mid < ma_nM) (hn : mid ≠ 113) : ma_cw mid ∈ ma_W := by
  unfold ma_nM at h
  by_cases h0 : mid = 0
  · subst h0; exact ma_cw0
  by_cases h1 : mid = 1
  · subst h1; exact ma_cw1
  by_cases h2 : mid = 2
  · subst h2; exact ma_cw2
  by_cases h3 : mid = 3
  · subst h3; exact ma_cw3
  by_cases h4 : mid = 4
  · subst h4; exact ma_cw4
  by_cases h5 : mid = 5
  · subst h5; exact ma_cw5
  by_cases h6 : mid = 6
  · subst h6; exact ma_cw6
  by_cases h7 : mid = 7
  · subst h7; exact ma_cw7
  by_cases h8 : mid = 8
  · subst h8; exact ma_cw8
  by_cases h9 : mid = 9
  · subst h9; exact ma_cw9
  by_cases h10 : mid = 10
  · subst h10; exact ma_cw10
  by_cases h11 : mid = 11
  · subst h11; exact ma_cw11
  by_cases h12 : mid = 12
  · subst h12; exact ma_cw12
  by_cases h13 : mid = 13
  · subst h13; exact ma_cw13
  by_cases h14 : mid = 14
  · subst h14; exact ma_cw14
  by_cases h15 : mid = 15
  · subst h15; exact ma_cw15
  by_cases h16 : mid = 16
  · subst h16; exact ma_cw16
  by_cases h17 : mid = 17
  · subst h17; exact ma_cw17
  by_cases h18 : mid = 18
  · subst h18; exact ma_cw18
  by_cases h19 : mid = 19
  · subst h19; exact ma_cw19
  by_cases h20 : mid = 20
  · subst h20; exact ma_cw20
  by_cases h21 : mid = 21
  · subst h21; exact ma_cw21
  by_cases h22 : mid = 22
  · subst h22; exact ma_cw22
  by_cases h23 : mid = 23
  · subst h23; exact ma_cw23
  by_cases h24 : mid = 24
  · subst h24; exact ma_cw24
  by_cases h25 : mid = 25
  · subst h25; exact ma_cw25
  by_cases h26 : mid = 26
  · subst h26; exact ma_cw26
  by_cases h27 : mid = 27
  · subst h27; exact ma_cw27
  by_cases h28 : mid = 28
  · subst h28; exact ma_cw28
  by_cases h29 : mid = 29
  · subst h29; exact ma_cw29
  by_cases h30 : mid = 30
  · subst h30; exact ma_cw30
  by_cases h31 : mid = 31
  · subst h31; exact ma_cw31
  by_cases h32 : mid = 32
  · subst h32; exact ma_cw32
  by_cases h33 : mid = 33
  · subst h33; exact ma_cw33
  by_cases h34 : mid = 34
  · subst h34; exact ma_cw34
  by_cases h35 : mid = 35
  · subst h35; exact ma_cw35
  by_cases h36 : mid = 36
  · subst h36; exact ma_cw36
  by_cases h37 : mid = 37
  · subst h37; exact ma_cw37
  by_cases h38 : mid = 38
  · subst h38; exact ma_cw38
  by_cases h39 : mid = 39
  · subst h39; exact ma_cw39
  by_cases h40 : mid = 40
  · subst h40; exact ma_cw40
  by_cases h41 : mid = 41
  · subst h41; exact ma_cw41
  by_cases h42 : mid = 42
  · subst h42; exact ma_cw42
  by_cases h43 : mid = 43
  · subst h43; exact ma_cw43
  by_cases h44 : mid = 44
  · subst h44; exact ma_cw44
  by_cases h45 : mid = 45
  · subst h45; exact ma_cw45
  by_cases h46 : mid = 46
  · subst h46; exact ma_cw46
  by_cases h47 : mid = 47
  · subst h47; exact ma_cw47
  by_cases h48 : mid = 48
  · subst h48; exact ma_cw48
  by_cases h49 : mid = 49
  · subst h49; exact ma_cw49
  by_cases h50 : mid = 50
  · subst h50; exact ma_cw50
  by_cases h51 : mid = 51
  · subst h51; exact ma_cw51
  by_cases h52 : mid = 52
  · subst h52; exact ma_cw52
  by_cases h53 : mid = 53
  · subst h53; exact ma_cw53
  by_cases h54 : mid = 54
  · subst h54; exact ma_cw54
  by_cases h55 : mid = 55
  · subst h55; exact ma_cw55
  by_cases h56 : mid = 56
  · subst h56; exact ma_cw56
  by_cases h57 : mid = 57
  · subst h57; exact ma_cw57
  by_cases h58 : mid = 58
  · subst h58; exact ma_cw58
  by_cases h59 : mid = 59
  · subst h59; exact ma_cw59
  by_cases h60 : mid = 60
  · subst h60; exact ma_cw60
  by_cases h61 : mid = 61
  · subst h61; exact ma_cw61
  by_cases h62 : mid = 62
  · subst h62; exact ma_cw62
  by_cases h63 : mid = 63
  · subst h63; exact ma_cw63
  by_cases h64 : mid = 64
  · subst h64; exact ma_cw64
  by_cases h65 : mid = 65
  · subst h65; exact ma_cw65
  by_cases h66 : mid = 66
  · subst h66; exact ma_cw66
  by_cases h67 : mid = 67
  · subst h67; exact ma_cw67
  by_cases h68 : mid = 68
  · subst h68; exact ma_cw68
  by_cases h69 : mid = 69
  · subst h69; exact ma_cw69
  by_cases h70 : mid = 70
  · subst h70; exact ma_cw70
  by_cases h71 : mid = 71
  · subst h71; exact ma_cw71
  by_cases h72 : mid = 72
  · subst h72; exact ma_cw72
  by_cases h73 : mid = 73
  · subst h73; exact ma_cw73
  by_cases h74 : mid = 74
  · subst h74; exact ma_cw74
  by_cases h75 : mid = 75
  · subst h75; exact ma_cw75
  by_cases h76 : mid = 76
  · subst h76; exact ma_cw76
  by_cases h77 : mid = 77
  · subst h77; exact ma_cw77
  by_cases h78 : mid = 78
  · subst h78; exact ma_cw78
  by_cases h79 : mid = 79
  · subst h79; exact ma_cw79
  by_cases h80 : mid = 80
  · subst h80; exact ma_cw80
  by_cases h81 : mid = 81
  · subst h81; exact ma_cw81
  by_cases h82 : mid = 82
  · subst h82; exact ma_cw82
  by_cases h83 : mid = 83
  · subst h83; exact ma_cw83
  by_cases h84 : mid = 84
  · subst h84; exact ma_cw84
  by_cases h85 : mid = 85
  · subst h85; exact ma_cw85
  by_cases h86 : mid = 86
  · subst h86; exact ma_cw86
  by_cases h87 : mid = 87
  · subst h87; exact ma_cw87
  by_cases h88 : mid = 88
  · subst h88; exact ma_cw88
  by_cases h89 : mid = 89
  · subst h89; exact ma_cw89
  by_cases h90 : mid = 90
  · subst h90; exact ma_cw90
  by_cases h91 : mid = 91
  · subst h91; exact ma_cw91
  by_cases h92 : mid = 92
  · subst h92; exact ma_cw92
  by_cases h93 : mid = 93
  · subst h93; exact ma_cw93
  by_cases h94 : mid = 94
  · subst h94; exact ma_cw94
  by_cases h95 : mid = 95
  · subst h95; exact ma_cw95
  by_cases h96 : mid = 96
  · subst h96; exact ma_cw96
  by_cases h97 : mid = 97
  · subst h97; exact ma_cw97
  by_cases h98 : mid = 98
  · subst h98; exact ma_cw98
  by_cases h99 : mid = 99
  · subst h99; exact ma_cw99
  by_cases h100 : mid = 100
  · subst h100; exact ma_cw100
  by_cases h101 : mid = 101
  · subst h101; exact ma_cw101
  by_cases h102 : mid = 102
  · subst h102; exact ma_cw102
  by_cases h103 : mid = 103
  · subst h103; exact ma_cw103
  by_cases h104 : mid = 104
  · subst h104; exact ma_cw104
  by_cases h105 : mid = 105
  · subst h105; exact ma_cw105
  by_cases h106 : mid = 106
  · subst h106; exact ma_cw106
  by_cases h107 : mid = 107
  · subst h107; exact ma_cw107
  by_cases h108 : mid = 108
  · subst h108; exact ma_cw108
  by_cases h109 : mid = 109
  · subst h109; exact ma_cw109
  by_cases h110 : mid = 110
  · subst h110; exact ma_cw110
  by_cases h111 : mid = 111
  · subst h111; exact ma_cw111
  by_cases h112 : mid = 112
  · subst h112; exact ma_cw112
  by_cases h113 : mid = 113
  · exact absurd h113 hn
  by_cases h114 : mid = 114
  · subst h114; exact ma_cw114
  omega
theorem ma_uw0 : ∀ w ∈ u_ws "DerivativeTape" ma_T0 16, w ∈ ma_W := by
  have h : ∀ k, k < 16 → lw_tbl[([190, 192, 194, 196, 198, 200, 202, 204, 206, 208, 210, 212, 214, 216, 218, 220] : List Nat).getD k 0]? = some (u_lay "DerivativeTape" ma_T0 k) ∧ goodWord (u_lay "DerivativeTape" ma_T0 k) = true := by decide +kernel
  intro w hw
  obtain ⟨k, hk, rfl⟩ := List.mem_map.mp hw
  exact ma_W_i (h k (List.mem_range.mp hk)).1 (h k (List.mem_range.mp hk)).2
theorem ma_ci0 : (∀ k, k < 16 → parseFieldDescriptor (ma_T0 k).2.2.1 = some (ma_ft 0 k)) ∧ (∀ a, a < 16 → ∀ b, b < 16 → a ≠ b → (ma_T0 a).2.1 ≠ (ma_T0 b).2.1) ∧ ∀ k, k < 16 → ma_tkb (ma_ft 0 k) (ma_fk 0 k) (ma_fz 0 k) = true := by decide +kernel
theorem ma_uw1 : ∀ w ∈ u_ws "DerivativeTape$Program" ma_T1 8, w ∈ ma_W := by
  have h : ∀ k, k < 8 → lw_tbl[([90, 92, 94, 96, 98, 100, 102, 104] : List Nat).getD k 0]? = some (u_lay "DerivativeTape$Program" ma_T1 k) ∧ goodWord (u_lay "DerivativeTape$Program" ma_T1 k) = true := by decide +kernel
  intro w hw
  obtain ⟨k, hk, rfl⟩ := List.mem_map.mp hw
  exact ma_W_i (h k (List.mem_range.mp hk)).1 (h k (List.mem_range.mp hk)).2
theorem ma_ci1 : (∀ k, k < 8 → parseFieldDescriptor (ma_T1 k).2.2.1 = some (ma_ft 1 k)) ∧ (∀ a, a < 8 → ∀ b, b < 8 → a ≠ b → (ma_T1 a).2.1 ≠ (ma_T1 b).2.1) ∧ ∀ k, k < 8 → ma_tkb (ma_ft 1 k) (ma_fk 1 k) (ma_fz 1 k) = true := by decide +kernel
theorem ma_uw2 : ∀ w ∈ u_ws "DerivativeTape$Sweep" ma_T2 2, w ∈ ma_W := by
  have h : ∀ k, k < 2 → lw_tbl[([123, 125] : List Nat).getD k 0]? = some (u_lay "DerivativeTape$Sweep" ma_T2 k) ∧ goodWord (u_lay "DerivativeTape$Sweep" ma_T2 k) = true := by decide +kernel
  intro w hw
  obtain ⟨k, hk, rfl⟩ := List.mem_map.mp hw
  exact ma_W_i (h k (List.mem_range.mp hk)).1 (h k (List.mem_range.mp hk)).2
theorem ma_ci2 : (∀ k, k < 2 → parseFieldDescriptor (ma_T2 k).2.2.1 = some (ma_ft 2 k)) ∧ (∀ a, a < 2 → ∀ b, b < 2 → a ≠ b → (ma_T2 a).2.1 ≠ (ma_T2 b).2.1) ∧ ∀ k, k < 2 → ma_tkb (ma_ft 2 k) (ma_fk 2 k) (ma_fz 2 k) = true := by decide +kernel
theorem ma_uw3 : ∀ w ∈ u_ws "DerivativeTape$BackSweep" ma_T3 1, w ∈ ma_W := by
  have h : ∀ k, k < 1 → lw_tbl[([136] : List Nat).getD k 0]? = some (u_lay "DerivativeTape$BackSweep" ma_T3 k) ∧ goodWord (u_lay "DerivativeTape$BackSweep" ma_T3 k) = true := by decide +kernel
  intro w hw
  obtain ⟨k, hk, rfl⟩ := List.mem_map.mp hw
  exact ma_W_i (h k (List.mem_range.mp hk)).1 (h k (List.mem_range.mp hk)).2
theorem ma_ci3 : (∀ k, k < 1 → parseFieldDescriptor (ma_T3 k).2.2.1 = some (ma_ft 3 k)) ∧ (∀ a, a < 1 → ∀ b, b < 1 → a ≠ b → (ma_T3 a).2.1 ≠ (ma_T3 b).2.1) ∧ ∀ k, k < 1 → ma_tkb (ma_ft 3 k) (ma_fk 3 k) (ma_fz 3 k) = true := by decide +kernel
theorem ma_uw4 : ∀ w ∈ u_ws "DerivativeTape$Shrinking" ma_T4 4, w ∈ ma_W := by
  have h : ∀ k, k < 4 → lw_tbl[([149, 151, 153, 155] : List Nat).getD k 0]? = some (u_lay "DerivativeTape$Shrinking" ma_T4 k) ∧ goodWord (u_lay "DerivativeTape$Shrinking" ma_T4 k) = true := by decide +kernel
  intro w hw
  obtain ⟨k, hk, rfl⟩ := List.mem_map.mp hw
  exact ma_W_i (h k (List.mem_range.mp hk)).1 (h k (List.mem_range.mp hk)).2
theorem ma_ci4 : (∀ k, k < 4 → parseFieldDescriptor (ma_T4 k).2.2.1 = some (ma_ft 4 k)) ∧ (∀ a, a < 4 → ∀ b, b < 4 → a ≠ b → (ma_T4 a).2.1 ≠ (ma_T4 b).2.1) ∧ ∀ k, k < 4 → ma_tkb (ma_ft 4 k) (ma_fk 4 k) (ma_fz 4 k) = true := by decide +kernel
theorem ma_uw5 : ∀ w ∈ u_ws "DerivativeTape$Snapshots" ma_T5 2, w ∈ ma_W := by
  have h : ∀ k, k < 2 → lw_tbl[([168, 170] : List Nat).getD k 0]? = some (u_lay "DerivativeTape$Snapshots" ma_T5 k) ∧ goodWord (u_lay "DerivativeTape$Snapshots" ma_T5 k) = true := by decide +kernel
  intro w hw
  obtain ⟨k, hk, rfl⟩ := List.mem_map.mp hw
  exact ma_W_i (h k (List.mem_range.mp hk)).1 (h k (List.mem_range.mp hk)).2
theorem ma_ci5 : (∀ k, k < 2 → parseFieldDescriptor (ma_T5 k).2.2.1 = some (ma_ft 5 k)) ∧ (∀ a, a < 2 → ∀ b, b < 2 → a ≠ b → (ma_T5 a).2.1 ≠ (ma_T5 b).2.1) ∧ ∀ k, k < 2 → ma_tkb (ma_ft 5 k) (ma_fk 5 k) (ma_fz 5 k) = true := by decide +kernel
theorem ma_uw6 : ∀ w ∈ u_ws "DerivativeTapeModel" ma_T6 27, w ∈ ma_W := by
  have h : ∀ k, k < 27 → lw_tbl[([540, 542, 544, 546, 548, 550, 552, 554, 556, 558, 560, 562, 564, 566, 568, 570, 572, 574, 576, 578, 580, 582, 584, 586, 588, 590, 592] : List Nat).getD k 0]? = some (u_lay "DerivativeTapeModel" ma_T6 k) ∧ goodWord (u_lay "DerivativeTapeModel" ma_T6 k) = true := by decide +kernel
  intro w hw
  obtain ⟨k, hk, rfl⟩ := List.mem_map.mp hw
  exact ma_W_i (h k (List.mem_range.mp hk)).1 (h k (List.mem_range.mp hk)).2
theorem ma_ci6 : (∀ k, k < 27 → parseFieldDescriptor (ma_T6 k).2.2.1 = some (ma_ft 6 k)) ∧ (∀ a, a < 27 → ∀ b, b < 27 → a ≠ b → (ma_T6 a).2.1 ≠ (ma_T6 b).2.1) ∧ ∀ k, k < 27 → ma_tkb (ma_ft 6 k) (ma_fk 6 k) (ma_fz 6 k) = true := by decide +kernel
theorem ma_uw {ci : Nat} {C : String} {T : u_T} {N : Nat} (h : ma_cl[ci]? = some (C, T, N)) : ∀ w ∈ u_ws C T N, w ∈ ma_W := by
  have hl : ci < 7 := (List.getElem?_eq_some_iff.mp h).1
  by_cases h0 : ci = 0
  · subst h0; cases h; exact ma_uw0
  by_cases h1 : ci = 1
  · subst h1; cases h; exact ma_uw1
  by_cases h2 : ci = 2
  · subst h2; cases h; exact ma_uw2
  by_cases h3 : ci = 3
  · subst h3; cases h; exact ma_uw3
  by_cases h4 : ci = 4
  · subst h4; cases h; exact ma_uw4
  by_cases h5 : ci = 5
  · subst h5; cases h; exact ma_uw5
  by_cases h6 : ci = 6
  · subst h6; cases h; exact ma_uw6
  omega
theorem ma_ci {ci : Nat} {C : String} {T : u_T} {N : Nat} (h : ma_cl[ci]? = some (C, T, N)) : (∀ k, k < N → parseFieldDescriptor (T k).2.2.1 = some (ma_ft ci k)) ∧ (∀ a, a < N → ∀ b, b < N → a ≠ b → (T a).2.1 ≠ (T b).2.1) ∧ ∀ k, k < N → ma_tk (ma_ft ci k) (ma_fk ci k) (ma_fz ci k) := by
  have hl : ci < 7 := (List.getElem?_eq_some_iff.mp h).1
  by_cases h0 : ci = 0
  · subst h0; cases h; exact ⟨ma_ci0.1, ma_ci0.2.1, fun k hk => ma_tkb_s (ma_ci0.2.2 k hk)⟩
  by_cases h1 : ci = 1
  · subst h1; cases h; exact ⟨ma_ci1.1, ma_ci1.2.1, fun k hk => ma_tkb_s (ma_ci1.2.2 k hk)⟩
  by_cases h2 : ci = 2
  · subst h2; cases h; exact ⟨ma_ci2.1, ma_ci2.2.1, fun k hk => ma_tkb_s (ma_ci2.2.2 k hk)⟩
  by_cases h3 : ci = 3
  · subst h3; cases h; exact ⟨ma_ci3.1, ma_ci3.2.1, fun k hk => ma_tkb_s (ma_ci3.2.2 k hk)⟩
  by_cases h4 : ci = 4
  · subst h4; cases h; exact ⟨ma_ci4.1, ma_ci4.2.1, fun k hk => ma_tkb_s (ma_ci4.2.2 k hk)⟩
  by_cases h5 : ci = 5
  · subst h5; cases h; exact ⟨ma_ci5.1, ma_ci5.2.1, fun k hk => ma_tkb_s (ma_ci5.2.2 k hk)⟩
  by_cases h6 : ci = 6
  · subst h6; cases h; exact ⟨ma_ci6.1, ma_ci6.2.1, fun k hk => ma_tkb_s (ma_ci6.2.2 k hk)⟩
  omega
theorem ma_gi {mid : Nat} (h : mid < ma_nM) (hn : mid ≠ 113) : GoodIn ma_W (ma_cw mid :: ma_W) := by
  intro w hw
  have hm : w ∈ ma_W := by
    rcases List.mem_cons.mp hw with rfl | hw
    · exact ma_cw_in h hn
    · exact hw
  exact ⟨hm, good_of_word (List.mem_filter.mp hm).2⟩
theorem ma_plain : ∀ mid, mid < ma_nM → plainName (ma_y mid).cls = true := by decide +kernel
