/-! THE LAW'S WALK, 8: the start -/
def zS0 : Nat → zSh := fun _ => (3, 0, 0, zn)
def zM0 : zMem := fun _ _ => 0
def zS1 : Nat → zSh := zupS zS0 0 (0, 8, 0, zn)
def zM1 : zMem := zup zM0 0 (fun _ => 0)
def zS2 : Nat → zSh := cS8 0 1 zS1
def zM2 : zMem := cM8 0 1 zM1
def zS3 : Nat → zSh := zupS zS2 69 (0, 9, 0, zn)
def zM3 : zMem := zup zM2 69 (fun _ => 0)
def zS4 : Nat → zSh := cS9 69 70 zS3
def zM4 : zMem := cM9 69 70 zM3
def zS5 : Nat → zSh := zupS zS4 1203 (3, 5, 1, zn)
def zM5 : zMem := zup zM4 1203 (fun _ => 0)
def zPi (k : Nat) : Nat := if k < 69 then 1135 + k else if k < 1203 then k - 69 else if k = 1203 then 1134 else k
def zRo (k : Nat) : Nat := if k < 1134 then k + 69 else if k = 1134 then 1203 else if k < 1204 then k - 1135 else k
theorem zRoPi (k : Nat) : zRo (zPi k) = k := by
  unfold zPi
  by_cases h1 : k < 69
  · rw [if_pos h1]; unfold zRo; rw [if_neg (by omega), if_neg (by omega), if_pos (by omega)]; omega
  · rw [if_neg h1]
    by_cases h2 : k < 1203
    · rw [if_pos h2]; unfold zRo; rw [if_pos (by omega)]; omega
    · rw [if_neg h2]
      by_cases h3 : k = 1203
      · rw [if_pos h3]; unfold zRo; rw [if_neg (by omega), if_pos rfl]; omega
      · rw [if_neg h3]; unfold zRo; rw [if_neg (by omega), if_neg (by omega), if_neg (by omega)]
theorem zPiRo (k : Nat) : zPi (zRo k) = k := by
  unfold zRo
  by_cases h1 : k < 1134
  · rw [if_pos h1]; unfold zPi; rw [if_neg (by omega), if_pos (by omega)]; omega
  · rw [if_neg h1]
    by_cases h2 : k = 1134
    · rw [if_pos h2]; unfold zPi; rw [if_neg (by omega), if_neg (by omega), if_pos rfl]; omega
    · rw [if_neg h2]
      by_cases h3 : k < 1204
      · rw [if_pos h3]; unfold zPi; rw [if_pos (by omega)]; omega
      · rw [if_neg h3]; unfold zPi; rw [if_neg (by omega), if_neg (by omega), if_neg (by omega)]
theorem zPi_far {k : Nat} (h : 1204 ≤ k) : zPi k = k := by unfold zPi; rw [if_neg (by omega), if_neg (by omega), if_neg (by omega)]
theorem zPi_X {k : Nat} (h : k < 69) : zPi k = 1135 + k := by unfold zPi; rw [if_pos h]
theorem zPi_M {j : Nat} (h : j < 1134) : zPi (69 + j) = j := by unfold zPi; rw [if_neg (by omega), if_pos (by omega)]; omega
theorem zPi_O : zPi 1203 = 1134 := rfl
/-- a shape of few references, by its parts -/
theorem zsh_eq {a b : zSh} (h : a.1 = b.1 ∧ a.2.1 = b.2.1 ∧ a.2.2.1 = b.2.2.1 ∧ ∀ j, j < 30 → a.2.2.2 j = b.2.2.2 j) (ha : ∀ i, a.2.2.2 (i + 30) = none) (hb : ∀ i, b.2.2.2 (i + 30) = none) : a = b := by
  obtain ⟨a1, a2, a3, a4⟩ := a
  obtain ⟨b1, b2, b3, b4⟩ := b
  obtain ⟨h1, h2, h3, h4⟩ := h
  have h1 : a1 = b1 := h1
  have h2 : a2 = b2 := h2
  have h3 : a3 = b3 := h3
  have e : a4 = b4 := zfx 30 h4 ha hb
  rw [h1, h2, h3, e]
def zOk2 : Nat → Prop := fun k => ∀ i, (zS2 k).2.2.2 (i + 30) = none
theorem st2_0 : zOk2 0 := fun _ => rfl
theorem st2_1 : zOk2 1 := fun _ => rfl
theorem st2_2 : zOk2 2 := fun _ => rfl
theorem st2_3 : zOk2 3 := fun _ => rfl
theorem st2_4 : zOk2 4 := fun _ => rfl
theorem st2_5 : zOk2 5 := fun _ => rfl
theorem st2_6 : zOk2 6 := fun _ => rfl
theorem st2_7 : zOk2 7 := fun _ => rfl
theorem st2_8 : zOk2 8 := fun _ => rfl
theorem st2_9 : zOk2 9 := fun _ => rfl
theorem st2_10 : zOk2 10 := fun _ => rfl
theorem st2_11 : zOk2 11 := fun _ => rfl
theorem st2_12 : zOk2 12 := fun _ => rfl
theorem st2_13 : zOk2 13 := fun _ => rfl
theorem st2_14 : zOk2 14 := fun _ => rfl
theorem st2_15 : zOk2 15 := fun _ => rfl
theorem st2_16 : zOk2 16 := fun _ => rfl
theorem st2_17 : zOk2 17 := fun _ => rfl
theorem st2_18 : zOk2 18 := fun _ => rfl
theorem st2_19 : zOk2 19 := fun _ => rfl
theorem st2_20 : zOk2 20 := fun _ => rfl
theorem st2_21 : zOk2 21 := fun _ => rfl
theorem st2_22 : zOk2 22 := fun _ => rfl
theorem st2_23 : zOk2 23 := fun _ => rfl
theorem st2_24 : zOk2 24 := fun _ => rfl
theorem st2_25 : zOk2 25 := fun _ => rfl
theorem st2_26 : zOk2 26 := fun _ => rfl
theorem st2_27 : zOk2 27 := fun _ => rfl
theorem st2_28 : zOk2 28 := fun _ => rfl
theorem st2_29 : zOk2 29 := fun _ => rfl
theorem st2_30 : zOk2 30 := fun _ => rfl
theorem st2_31 : zOk2 31 := fun _ => rfl
theorem st2_32 : zOk2 32 := fun _ => rfl
theorem st2_33 : zOk2 33 := fun _ => rfl
theorem st2_34 : zOk2 34 := fun _ => rfl
theorem st2_35 : zOk2 35 := fun _ => rfl
theorem st2_36 : zOk2 36 := fun _ => rfl
theorem st2_37 : zOk2 37 := fun _ => rfl
theorem st2_38 : zOk2 38 := fun _ => rfl
theorem st2_39 : zOk2 39 := fun _ => rfl
theorem st2_40 : zOk2 40 := fun _ => rfl
theorem st2_41 : zOk2 41 := fun _ => rfl
theorem st2_42 : zOk2 42 := fun _ => rfl
theorem st2_43 : zOk2 43 := fun _ => rfl
theorem st2_44 : zOk2 44 := fun _ => rfl
theorem st2_45 : zOk2 45 := fun _ => rfl
theorem st2_46 : zOk2 46 := fun _ => rfl
theorem st2_47 : zOk2 47 := fun _ => rfl
theorem st2_48 : zOk2 48 := fun _ => rfl
theorem st2_49 : zOk2 49 := fun _ => rfl
theorem st2_50 : zOk2 50 := fun _ => rfl
theorem st2_51 : zOk2 51 := fun _ => rfl
theorem st2_52 : zOk2 52 := fun _ => rfl
theorem st2_53 : zOk2 53 := fun _ => rfl
theorem st2_54 : zOk2 54 := fun _ => rfl
theorem st2_55 : zOk2 55 := fun _ => rfl
theorem st2_56 : zOk2 56 := fun _ => rfl
theorem st2_57 : zOk2 57 := fun _ => rfl
theorem st2_58 : zOk2 58 := fun _ => rfl
theorem st2_59 : zOk2 59 := fun _ => rfl
theorem st2_60 : zOk2 60 := fun _ => rfl
theorem st2_61 : zOk2 61 := fun _ => rfl
theorem st2_62 : zOk2 62 := fun _ => rfl
theorem st2_63 : zOk2 63 := fun _ => rfl
theorem st2_64 : zOk2 64 := fun _ => rfl
theorem st2_65 : zOk2 65 := fun _ => rfl
theorem st2_66 : zOk2 66 := fun _ => rfl
theorem st2_67 : zOk2 67 := fun _ => rfl
theorem st2_68 : zOk2 68 := fun _ => rfl
theorem st2 : ∀ k, k < 69 → zOk2 k
  | 0, _ => st2_0
  | 1, _ => st2_1
  | 2, _ => st2_2
  | 3, _ => st2_3
  | 4, _ => st2_4
  | 5, _ => st2_5
  | 6, _ => st2_6
  | 7, _ => st2_7
  | 8, _ => st2_8
  | 9, _ => st2_9
  | 10, _ => st2_10
  | 11, _ => st2_11
  | 12, _ => st2_12
  | 13, _ => st2_13
  | 14, _ => st2_14
  | 15, _ => st2_15
  | 16, _ => st2_16
  | 17, _ => st2_17
  | 18, _ => st2_18
  | 19, _ => st2_19
  | 20, _ => st2_20
  | 21, _ => st2_21
  | 22, _ => st2_22
  | 23, _ => st2_23
  | 24, _ => st2_24
  | 25, _ => st2_25
  | 26, _ => st2_26
  | 27, _ => st2_27
  | 28, _ => st2_28
  | 29, _ => st2_29
  | 30, _ => st2_30
  | 31, _ => st2_31
  | 32, _ => st2_32
  | 33, _ => st2_33
  | 34, _ => st2_34
  | 35, _ => st2_35
  | 36, _ => st2_36
  | 37, _ => st2_37
  | 38, _ => st2_38
  | 39, _ => st2_39
  | 40, _ => st2_40
  | 41, _ => st2_41
  | 42, _ => st2_42
  | 43, _ => st2_43
  | 44, _ => st2_44
  | 45, _ => st2_45
  | 46, _ => st2_46
  | 47, _ => st2_47
  | 48, _ => st2_48
  | 49, _ => st2_49
  | 50, _ => st2_50
  | 51, _ => st2_51
  | 52, _ => st2_52
  | 53, _ => st2_53
  | 54, _ => st2_54
  | 55, _ => st2_55
  | 56, _ => st2_56
  | 57, _ => st2_57
  | 58, _ => st2_58
  | 59, _ => st2_59
  | 60, _ => st2_60
  | 61, _ => st2_61
  | 62, _ => st2_62
  | 63, _ => st2_63
  | 64, _ => st2_64
  | 65, _ => st2_65
  | 66, _ => st2_66
  | 67, _ => st2_67
  | 68, _ => st2_68
  | k + 69, h => absurd h (by omega)
theorem st_X (k : Nat) (hk : k < 69) : zS2 k = SX false k := by
  have h1 : ∀ k, k < 69 → (zS2 k).1 = (SX false k).1 ∧ (zS2 k).2.1 = (SX false k).2.1 ∧ (zS2 k).2.2.1 = (SX false k).2.2.1 ∧ ∀ j, j < 30 → (zS2 k).2.2.2 j = (SX false k).2.2.2 j := by decide +kernel
  exact zsh_eq (h1 k hk) (st2 k hk) (fun i => zTail_at (SXl false) zTail_X k i)
theorem rsh_zrw {t N b : Nat} (h : b + N ≤ 1134) : rsh zPi (2, t, N, zrw N (69 + b)) = (2, t, N, zrw N b) := by
  have e : (fun j => (zrw N (69 + b) j).map zPi) = zrw N b := by
    funext j
    unfold zrw
    by_cases hj : j < N
    · rw [if_pos hj, if_pos hj]
      show some (zPi (69 + b + j)) = some (b + j)
      rw [Nat.add_assoc, zPi_M (by omega)]
    · rw [if_neg hj, if_neg hj]; rfl
  show ((2, t, N, fun j => (zrw N (69 + b) j).map zPi) : zSh) = _
  rw [e]
theorem st_M0 : rsh zPi (zS4 69) = SM 0 := by
  have h1 : ∀ j, j < 60 → (rsh zPi (zS4 69)).2.2.2 j = mR0 j := by decide +kernel
  have e : (rsh zPi (zS4 69)).2.2.2 = mR0 := zfx 60 h1 (fun _ => rfl) (fun _ => rfl)
  show (((zS4 69).1, (zS4 69).2.1, (zS4 69).2.2.1, (rsh zPi (zS4 69)).2.2.2) : zSh) = _
  rw [e]
  rfl
theorem st_M1 : rsh zPi (zS4 70) = SM 1 := rfl
theorem st_M2 : rsh zPi (zS4 71) = SM 2 := rfl
theorem st_M3 : rsh zPi (zS4 72) = SM 3 := rfl
theorem st_M4 : rsh zPi (zS4 73) = SM 4 := rfl
theorem st_M5 : rsh zPi (zS4 74) = SM 5 := rsh_zrw (t := 2) (N := 8) (b := 6) (by decide)
theorem st_M6 : rsh zPi (zS4 75) = SM 6 := rfl
theorem st_M7 : rsh zPi (zS4 76) = SM 7 := rfl
theorem st_M8 : rsh zPi (zS4 77) = SM 8 := rfl
theorem st_M9 : rsh zPi (zS4 78) = SM 9 := rfl
theorem st_M10 : rsh zPi (zS4 79) = SM 10 := rfl
theorem st_M11 : rsh zPi (zS4 80) = SM 11 := rfl
theorem st_M12 : rsh zPi (zS4 81) = SM 12 := rfl
theorem st_M13 : rsh zPi (zS4 82) = SM 13 := rfl
theorem st_M14 : rsh zPi (zS4 83) = SM 14 := rsh_zrw (t := 2) (N := 9) (b := 15) (by decide)
theorem st_M15 : rsh zPi (zS4 84) = SM 15 := rfl
theorem st_M16 : rsh zPi (zS4 85) = SM 16 := rfl
theorem st_M17 : rsh zPi (zS4 86) = SM 17 := rfl
theorem st_M18 : rsh zPi (zS4 87) = SM 18 := rfl
theorem st_M19 : rsh zPi (zS4 88) = SM 19 := rfl
theorem st_M20 : rsh zPi (zS4 89) = SM 20 := rfl
theorem st_M21 : rsh zPi (zS4 90) = SM 21 := rfl
theorem st_M22 : rsh zPi (zS4 91) = SM 22 := rfl
theorem st_M23 : rsh zPi (zS4 92) = SM 23 := rfl
theorem st_M24 : rsh zPi (zS4 93) = SM 24 := rsh_zrw (t := 2) (N := 10) (b := 25) (by decide)
theorem st_M25 : rsh zPi (zS4 94) = SM 25 := rfl
theorem st_M26 : rsh zPi (zS4 95) = SM 26 := rfl
theorem st_M27 : rsh zPi (zS4 96) = SM 27 := rfl
theorem st_M28 : rsh zPi (zS4 97) = SM 28 := rfl
theorem st_M29 : rsh zPi (zS4 98) = SM 29 := rfl
theorem st_M30 : rsh zPi (zS4 99) = SM 30 := rfl
theorem st_M31 : rsh zPi (zS4 100) = SM 31 := rfl
theorem st_M32 : rsh zPi (zS4 101) = SM 32 := rfl
theorem st_M33 : rsh zPi (zS4 102) = SM 33 := rfl
theorem st_M34 : rsh zPi (zS4 103) = SM 34 := rfl
theorem st_M35 : rsh zPi (zS4 104) = SM 35 := rsh_zrw (t := 2) (N := 10) (b := 36) (by decide)
theorem st_M36 : rsh zPi (zS4 105) = SM 36 := rfl
theorem st_M37 : rsh zPi (zS4 106) = SM 37 := rfl
theorem st_M38 : rsh zPi (zS4 107) = SM 38 := rfl
theorem st_M39 : rsh zPi (zS4 108) = SM 39 := rfl
theorem st_M40 : rsh zPi (zS4 109) = SM 40 := rfl
theorem st_M41 : rsh zPi (zS4 110) = SM 41 := rfl
theorem st_M42 : rsh zPi (zS4 111) = SM 42 := rfl
theorem st_M43 : rsh zPi (zS4 112) = SM 43 := rfl
theorem st_M44 : rsh zPi (zS4 113) = SM 44 := rfl
theorem st_M45 : rsh zPi (zS4 114) = SM 45 := rfl
theorem st_M46 : rsh zPi (zS4 115) = SM 46 := rfl
theorem st_M47 : rsh zPi (zS4 116) = SM 47 := rfl
theorem st_M48 : rsh zPi (zS4 117) = SM 48 := rfl
theorem st_M49 : rsh zPi (zS4 118) = SM 49 := rfl
theorem st_M50 : rsh zPi (zS4 119) = SM 50 := rsh_zrw (t := 2) (N := 9) (b := 51) (by decide)
theorem st_M51 : rsh zPi (zS4 120) = SM 51 := rfl
theorem st_M52 : rsh zPi (zS4 121) = SM 52 := rfl
theorem st_M53 : rsh zPi (zS4 122) = SM 53 := rfl
theorem st_M54 : rsh zPi (zS4 123) = SM 54 := rfl
theorem st_M55 : rsh zPi (zS4 124) = SM 55 := rfl
theorem st_M56 : rsh zPi (zS4 125) = SM 56 := rfl
theorem st_M57 : rsh zPi (zS4 126) = SM 57 := rfl
theorem st_M58 : rsh zPi (zS4 127) = SM 58 := rfl
theorem st_M59 : rsh zPi (zS4 128) = SM 59 := rfl
theorem st_M60 : rsh zPi (zS4 129) = SM 60 := rsh_zrw (t := 2) (N := 30) (b := 61) (by decide)
theorem st_M61 : rsh zPi (zS4 130) = SM 61 := rfl
theorem st_M62 : rsh zPi (zS4 131) = SM 62 := rfl
theorem st_M63 : rsh zPi (zS4 132) = SM 63 := rfl
theorem st_M64 : rsh zPi (zS4 133) = SM 64 := rfl
theorem st_M65 : rsh zPi (zS4 134) = SM 65 := rfl
theorem st_M66 : rsh zPi (zS4 135) = SM 66 := rfl
theorem st_M67 : rsh zPi (zS4 136) = SM 67 := rfl
theorem st_M68 : rsh zPi (zS4 137) = SM 68 := rfl
theorem st_M69 : rsh zPi (zS4 138) = SM 69 := rfl
theorem st_M70 : rsh zPi (zS4 139) = SM 70 := rfl
theorem st_M71 : rsh zPi (zS4 140) = SM 71 := rfl
theorem st_M72 : rsh zPi (zS4 141) = SM 72 := rfl
theorem st_M73 : rsh zPi (zS4 142) = SM 73 := rfl
theorem st_M74 : rsh zPi (zS4 143) = SM 74 := rfl
theorem st_M75 : rsh zPi (zS4 144) = SM 75 := rfl
theorem st_M76 : rsh zPi (zS4 145) = SM 76 := rfl
theorem st_M77 : rsh zPi (zS4 146) = SM 77 := rfl
theorem st_M78 : rsh zPi (zS4 147) = SM 78 := rfl
theorem st_M79 : rsh zPi (zS4 148) = SM 79 := rfl
theorem st_M80 : rsh zPi (zS4 149) = SM 80 := rfl
theorem st_M81 : rsh zPi (zS4 150) = SM 81 := rfl
theorem st_M82 : rsh zPi (zS4 151) = SM 82 := rfl
theorem st_M83 : rsh zPi (zS4 152) = SM 83 := rfl
theorem st_M84 : rsh zPi (zS4 153) = SM 84 := rfl
theorem st_M85 : rsh zPi (zS4 154) = SM 85 := rfl
theorem st_M86 : rsh zPi (zS4 155) = SM 86 := rfl
theorem st_M87 : rsh zPi (zS4 156) = SM 87 := rfl
theorem st_M88 : rsh zPi (zS4 157) = SM 88 := rfl
theorem st_M89 : rsh zPi (zS4 158) = SM 89 := rfl
theorem st_M90 : rsh zPi (zS4 159) = SM 90 := rfl
theorem st_M91 : rsh zPi (zS4 160) = SM 91 := rfl
theorem st_M92 : rsh zPi (zS4 161) = SM 92 := rfl
theorem st_M93 : rsh zPi (zS4 162) = SM 93 := rsh_zrw (t := 2) (N := 3) (b := 94) (by decide)
theorem st_M94 : rsh zPi (zS4 163) = SM 94 := rfl
theorem st_M95 : rsh zPi (zS4 164) = SM 95 := rfl
theorem st_M96 : rsh zPi (zS4 165) = SM 96 := rfl
theorem st_M97 : rsh zPi (zS4 166) = SM 97 := rsh_zrw (t := 2) (N := 2) (b := 98) (by decide)
theorem st_M98 : rsh zPi (zS4 167) = SM 98 := rfl
theorem st_M99 : rsh zPi (zS4 168) = SM 99 := rfl
theorem st_M100 : rsh zPi (zS4 169) = SM 100 := rsh_zrw (t := 3) (N := 1024) (b := 101) (by decide)
theorem st_M1125 : rsh zPi (zS4 1194) = SM 1125 := rfl
theorem st_M1126 : rsh zPi (zS4 1195) = SM 1126 := rfl
theorem st_M1127 : rsh zPi (zS4 1196) = SM 1127 := rfl
theorem st_M1128 : rsh zPi (zS4 1197) = SM 1128 := rfl
theorem st_M1129 : rsh zPi (zS4 1198) = SM 1129 := rfl
theorem st_M1130 : rsh zPi (zS4 1199) = SM 1130 := rfl
theorem st_M1131 : rsh zPi (zS4 1200) = SM 1131 := rfl
theorem st_M1132 : rsh zPi (zS4 1201) = SM 1132 := rfl
theorem st_M1133 : rsh zPi (zS4 1202) = SM 1133 := rfl
theorem st_had {j : Nat} (h1 : 101 ≤ j) (h2 : j < 1125) : rsh zPi (zS4 (69 + j)) = SM j := by
  have e : zS4 (69 + j) = (1, 1, 512, zn) := by
    unfold zS4 cS9
    rw [zupS_ne (by omega), zupS_ne (by omega), zupS_ne (by omega), zupS_ne (by omega), zupS_ne (by omega), zupS_ne (by omega), zupS_ne (by omega), zupS_ne (by omega), zupS_ne (by omega), zupS_ne (by omega), zupS_ne (by omega), zupS_ne (by omega), zupS_ne (by omega), zupS_ne (by omega), zupS_ne (by omega), zupS_ne (by omega), zupS_ne (by omega), zupS_ne (by omega), zupS_ne (by omega)]
    unfold zupM
    rw [if_neg (by omega), if_pos (by omega)]
  rw [e]
  unfold SM
  rw [if_neg (by omega), if_pos (by omega)]
  rfl
theorem st_lo : ∀ j, j < 101 → rsh zPi (zS4 (69 + j)) = SM j
  | 0, _ => st_M0
  | 1, _ => st_M1
  | 2, _ => st_M2
  | 3, _ => st_M3
  | 4, _ => st_M4
  | 5, _ => st_M5
  | 6, _ => st_M6
  | 7, _ => st_M7
  | 8, _ => st_M8
  | 9, _ => st_M9
  | 10, _ => st_M10
  | 11, _ => st_M11
  | 12, _ => st_M12
  | 13, _ => st_M13
  | 14, _ => st_M14
  | 15, _ => st_M15
  | 16, _ => st_M16
  | 17, _ => st_M17
  | 18, _ => st_M18
  | 19, _ => st_M19
  | 20, _ => st_M20
  | 21, _ => st_M21
  | 22, _ => st_M22
  | 23, _ => st_M23
  | 24, _ => st_M24
  | 25, _ => st_M25
  | 26, _ => st_M26
  | 27, _ => st_M27
  | 28, _ => st_M28
  | 29, _ => st_M29
  | 30, _ => st_M30
  | 31, _ => st_M31
  | 32, _ => st_M32
  | 33, _ => st_M33
  | 34, _ => st_M34
  | 35, _ => st_M35
  | 36, _ => st_M36
  | 37, _ => st_M37
  | 38, _ => st_M38
  | 39, _ => st_M39
  | 40, _ => st_M40
  | 41, _ => st_M41
  | 42, _ => st_M42
  | 43, _ => st_M43
  | 44, _ => st_M44
  | 45, _ => st_M45
  | 46, _ => st_M46
  | 47, _ => st_M47
  | 48, _ => st_M48
  | 49, _ => st_M49
  | 50, _ => st_M50
  | 51, _ => st_M51
  | 52, _ => st_M52
  | 53, _ => st_M53
  | 54, _ => st_M54
  | 55, _ => st_M55
  | 56, _ => st_M56
  | 57, _ => st_M57
  | 58, _ => st_M58
  | 59, _ => st_M59
  | 60, _ => st_M60
  | 61, _ => st_M61
  | 62, _ => st_M62
  | 63, _ => st_M63
  | 64, _ => st_M64
  | 65, _ => st_M65
  | 66, _ => st_M66
  | 67, _ => st_M67
  | 68, _ => st_M68
  | 69, _ => st_M69
  | 70, _ => st_M70
  | 71, _ => st_M71
  | 72, _ => st_M72
  | 73, _ => st_M73
  | 74, _ => st_M74
  | 75, _ => st_M75
  | 76, _ => st_M76
  | 77, _ => st_M77
  | 78, _ => st_M78
  | 79, _ => st_M79
  | 80, _ => st_M80
  | 81, _ => st_M81
  | 82, _ => st_M82
  | 83, _ => st_M83
  | 84, _ => st_M84
  | 85, _ => st_M85
  | 86, _ => st_M86
  | 87, _ => st_M87
  | 88, _ => st_M88
  | 89, _ => st_M89
  | 90, _ => st_M90
  | 91, _ => st_M91
  | 92, _ => st_M92
  | 93, _ => st_M93
  | 94, _ => st_M94
  | 95, _ => st_M95
  | 96, _ => st_M96
  | 97, _ => st_M97
  | 98, _ => st_M98
  | 99, _ => st_M99
  | 100, _ => st_M100
  | k + 101, h => absurd h (by omega)
theorem st_hi : ∀ j, j < 9 → rsh zPi (zS4 (1194 + j)) = SM (1125 + j)
  | 0, _ => st_M1125
  | 1, _ => st_M1126
  | 2, _ => st_M1127
  | 3, _ => st_M1128
  | 4, _ => st_M1129
  | 5, _ => st_M1130
  | 6, _ => st_M1131
  | 7, _ => st_M1132
  | 8, _ => st_M1133
  | k + 9, h => absurd h (by omega)
theorem st_M (j : Nat) (hj : j < 1134) : rsh zPi (zS4 (69 + j)) = SM j := by
  rcases Nat.lt_or_ge j 101 with h | h
  · exact st_lo j h
  · rcases Nat.lt_or_ge j 1125 with h2 | h2
    · exact st_had h h2
    · obtain ⟨i, rfl⟩ := Nat.exists_eq_add_of_le h2
      rw [show 69 + (1125 + i) = 1194 + i by omega]
      exact st_hi i (by omega)
