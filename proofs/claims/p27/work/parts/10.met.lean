theorem jm_xcb0 : ∀ j, j < 16 → jm_xc (0 + j) = true := fun j h => match j, h with
  | 0, _ => jm_okc0
  | 1, _ => jm_okc1
  | 2, _ => jm_okc2
  | 3, _ => jm_okc3
  | 4, _ => jm_okc4
  | 5, _ => jm_okc5
  | 6, _ => jm_okc6
  | 7, _ => jm_okc7
  | 8, _ => jm_okc8
  | 9, _ => jm_okc9
  | 10, _ => jm_okc10
  | 11, _ => jm_okc11
  | 12, _ => jm_okc12
  | 13, _ => jm_okc13
  | 14, _ => jm_okc14
  | 15, _ => jm_okc15
  | n + 16, h => absurd h (by omega)
theorem jm_xcb1 : ∀ j, j < 16 → jm_xc (16 + j) = true := fun j h => match j, h with
  | 0, _ => jm_okc16
  | 1, _ => jm_okc17
  | 2, _ => jm_okc18
  | 3, _ => jm_okc19
  | 4, _ => jm_okc20
  | 5, _ => jm_okc21
  | 6, _ => jm_okc22
  | 7, _ => jm_okc23
  | 8, _ => jm_okc24
  | 9, _ => jm_okc25
  | 10, _ => jm_okc26
  | 11, _ => jm_okc27
  | 12, _ => jm_okc28
  | 13, _ => jm_okc29
  | 14, _ => jm_okc30
  | 15, _ => jm_okc31
  | n + 16, h => absurd h (by omega)
theorem jm_xcb2 : ∀ j, j < 16 → jm_xc (32 + j) = true := fun j h => match j, h with
  | 0, _ => jm_okc32
  | 1, _ => jm_okc33
  | 2, _ => jm_okc34
  | 3, _ => jm_okc35
  | 4, _ => jm_okc36
  | 5, _ => jm_okc37
  | 6, _ => jm_okc38
  | 7, _ => jm_okc39
  | 8, _ => jm_okc40
  | 9, _ => jm_okc41
  | 10, _ => jm_okc42
  | 11, _ => jm_okc43
  | 12, _ => jm_okc44
  | 13, _ => jm_okc45
  | 14, _ => jm_okc46
  | 15, _ => jm_okc47
  | n + 16, h => absurd h (by omega)
theorem jm_xcb3 : ∀ j, j < 16 → jm_xc (48 + j) = true := fun j h => match j, h with
  | 0, _ => jm_okc48
  | 1, _ => jm_okc49
  | 2, _ => jm_okc50
  | 3, _ => jm_okc51
  | 4, _ => jm_okc52
  | 5, _ => jm_okc53
  | 6, _ => jm_okc54
  | 7, _ => jm_okc55
  | 8, _ => jm_okc56
  | 9, _ => jm_okc57
  | 10, _ => jm_okc58
  | 11, _ => jm_okc59
  | 12, _ => jm_okc60
  | 13, _ => jm_okc61
  | 14, _ => jm_okc62
  | 15, _ => jm_okc63
  | n + 16, h => absurd h (by omega)
theorem jm_xcb4 : ∀ j, j < 16 → jm_xc (64 + j) = true := fun j h => match j, h with
  | 0, _ => jm_okc64
  | 1, _ => jm_okc65
  | 2, _ => jm_okc66
  | 3, _ => jm_okc67
  | 4, _ => jm_okc68
  | 5, _ => jm_okc69
  | 6, _ => jm_okc70
  | 7, _ => jm_okc71
  | 8, _ => jm_okc72
  | 9, _ => jm_okc73
  | 10, _ => jm_okc74
  | 11, _ => jm_okc75
  | 12, _ => jm_okc76
  | 13, _ => jm_okc77
  | 14, _ => jm_okc78
  | 15, _ => jm_okc79
  | n + 16, h => absurd h (by omega)
theorem jm_xcb5 : ∀ j, j < 16 → jm_xc (80 + j) = true := fun j h => match j, h with
  | 0, _ => jm_okc80
  | 1, _ => jm_okc81
  | 2, _ => jm_okc82
  | 3, _ => jm_okc83
  | 4, _ => jm_okc84
  | 5, _ => jm_okc85
  | 6, _ => jm_okc86
  | 7, _ => jm_okc87
  | 8, _ => jm_okc88
  | 9, _ => jm_okc89
  | 10, _ => jm_okc90
  | 11, _ => jm_okc91
  | 12, _ => jm_okc92
  | 13, _ => jm_okc93
  | 14, _ => jm_okc94
  | 15, _ => jm_okc95
  | n + 16, h => absurd h (by omega)
theorem jm_xcb6 : ∀ j, j < 16 → jm_xc (96 + j) = true := fun j h => match j, h with
  | 0, _ => jm_okc96
  | 1, _ => jm_okc97
  | 2, _ => jm_okc98
  | 3, _ => jm_okc99
  | 4, _ => jm_okc100
  | 5, _ => jm_okc101
  | 6, _ => jm_okc102
  | 7, _ => jm_okc103
  | 8, _ => jm_okc104
  | 9, _ => jm_okc105
  | 10, _ => jm_okc106
  | 11, _ => jm_okc107
  | 12, _ => jm_okc108
  | 13, _ => jm_okc109
  | 14, _ => jm_okc110
  | 15, _ => jm_okc111
  | n + 16, h => absurd h (by omega)
theorem jm_xcb7 : ∀ j, j < 16 → jm_xc (112 + j) = true := fun j h => match j, h with
  | 0, _ => jm_okc112
  | 1, _ => jm_okc113
  | 2, _ => jm_okc114
  | 3, _ => jm_okc115
  | 4, _ => jm_okc116
  | 5, _ => jm_okc117
  | 6, _ => jm_okc118
  | 7, _ => jm_okc119
  | 8, _ => jm_okc120
  | 9, _ => jm_okc121
  | 10, _ => jm_okc122
  | 11, _ => jm_okc123
  | 12, _ => jm_okc124
  | 13, _ => jm_okc125
  | 14, _ => jm_okc126
  | 15, _ => jm_okc127
  | n + 16, h => absurd h (by omega)
theorem jm_xcb8 : ∀ j, j < 16 → jm_xc (128 + j) = true := fun j h => match j, h with
  | 0, _ => jm_okc128
  | 1, _ => jm_okc129
  | 2, _ => jm_okc130
  | 3, _ => jm_okc131
  | 4, _ => jm_okc132
  | 5, _ => jm_okc133
  | 6, _ => jm_okc134
  | 7, _ => jm_okc135
  | 8, _ => jm_okc136
  | 9, _ => jm_okc137
  | 10, _ => jm_okc138
  | 11, _ => jm_okc139
  | 12, _ => jm_okc140
  | 13, _ => jm_okc141
  | 14, _ => jm_okc142
  | 15, _ => jm_okc143
  | n + 16, h => absurd h (by omega)
theorem jm_xcb9 : ∀ j, j < 16 → jm_xc (144 + j) = true := fun j h => match j, h with
  | 0, _ => jm_okc144
  | 1, _ => jm_okc145
  | 2, _ => jm_okc146
  | 3, _ => jm_okc147
  | 4, _ => jm_okc148
  | 5, _ => jm_okc149
  | 6, _ => jm_okc150
  | 7, _ => jm_okc151
  | 8, _ => jm_okc152
  | 9, _ => jm_okc153
  | 10, _ => jm_okc154
  | 11, _ => jm_okc155
  | 12, _ => jm_okc156
  | 13, _ => jm_okc157
  | 14, _ => jm_okc158
  | 15, _ => jm_okc159
  | n + 16, h => absurd h (by omega)
theorem jm_xcb10 : ∀ j, j < 16 → jm_xc (160 + j) = true := fun j h => match j, h with
  | 0, _ => jm_okc160
  | 1, _ => jm_okc161
  | 2, _ => jm_okc162
  | 3, _ => jm_okc163
  | 4, _ => jm_okc164
  | 5, _ => jm_okc165
  | 6, _ => jm_okc166
  | 7, _ => jm_okc167
  | 8, _ => jm_okc168
  | 9, _ => jm_okc169
  | 10, _ => jm_okc170
  | 11, _ => jm_okc171
  | 12, _ => jm_okc172
  | 13, _ => jm_okc173
  | 14, _ => jm_okc174
  | 15, _ => jm_okc175
  | n + 16, h => absurd h (by omega)
theorem jm_xcb11 : ∀ j, j < 16 → jm_xc (176 + j) = true := fun j h => match j, h with
  | 0, _ => jm_okc176
  | 1, _ => jm_okc177
  | 2, _ => jm_okc178
  | 3, _ => jm_okc179
  | 4, _ => jm_okc180
  | 5, _ => jm_okc181
  | 6, _ => jm_okc182
  | 7, _ => jm_okc183
  | 8, _ => jm_okc184
  | 9, _ => jm_okc185
  | 10, _ => jm_okc186
  | 11, _ => jm_okc187
  | 12, _ => jm_okc188
  | 13, _ => jm_okc189
  | 14, _ => jm_okc190
  | 15, _ => jm_okc191
  | n + 16, h => absurd h (by omega)
theorem jm_xcb12 : ∀ j, j < 16 → jm_xc (192 + j) = true := fun j h => match j, h with
  | 0, _ => jm_okc192
  | 1, _ => jm_okc193
  | 2, _ => jm_okc194
  | 3, _ => jm_okc195
  | 4, _ => jm_okc196
  | 5, _ => jm_okc197
  | 6, _ => jm_okc198
  | 7, _ => jm_okc199
  | 8, _ => jm_okc200
  | 9, _ => jm_okc201
  | 10, _ => jm_okc202
  | 11, _ => jm_okc203
  | 12, _ => jm_okc204
  | 13, _ => jm_okc205
  | 14, _ => jm_okc206
  | 15, _ => jm_okc207
  | n + 16, h => absurd h (by omega)
theorem jm_xcb13 : ∀ j, j < 16 → jm_xc (208 + j) = true := fun j h => match j, h with
  | 0, _ => jm_okc208
  | 1, _ => jm_okc209
  | 2, _ => jm_okc210
  | 3, _ => jm_okc211
  | 4, _ => jm_okc212
  | 5, _ => jm_okc213
  | 6, _ => jm_okc214
  | 7, _ => jm_okc215
  | 8, _ => jm_okc216
  | 9, _ => jm_okc217
  | 10, _ => jm_okc218
  | 11, _ => jm_okc219
  | 12, _ => jm_okc220
  | 13, _ => jm_okc221
  | 14, _ => jm_okc222
  | 15, _ => jm_okc223
  | n + 16, h => absurd h (by omega)
theorem jm_xcb14 : ∀ j, j < 16 → jm_xc (224 + j) = true := fun j h => match j, h with
  | 0, _ => jm_okc224
  | 1, _ => jm_okc225
  | 2, _ => jm_okc226
  | 3, _ => jm_okc227
  | 4, _ => jm_okc228
  | 5, _ => jm_okc229
  | 6, _ => jm_okc230
  | 7, _ => jm_okc231
  | 8, _ => jm_okc232
  | 9, _ => jm_okc233
  | 10, _ => jm_okc234
  | 11, _ => jm_okc235
  | 12, _ => jm_okc236
  | 13, _ => jm_okc237
  | 14, _ => jm_okc238
  | 15, _ => jm_okc239
  | n + 16, h => absurd h (by omega)
theorem jm_xcb15 : ∀ j, j < 16 → jm_xc (240 + j) = true := fun j h => match j, h with
  | 0, _ => jm_okc240
  | 1, _ => jm_okc241
  | 2, _ => jm_okc242
  | 3, _ => jm_okc243
  | 4, _ => jm_okc244
  | 5, _ => jm_okc245
  | 6, _ => jm_okc246
  | 7, _ => jm_okc247
  | 8, _ => jm_okc248
  | 9, _ => jm_okc249
  | 10, _ => jm_okc250
  | 11, _ => jm_okc251
  | 12, _ => jm_okc252
  | 13, _ => jm_okc253
  | 14, _ => jm_okc254
  | 15, _ => jm_okc255
  | n + 16, h => absurd h (by omega)
theorem jm_div16 {mi : Nat} (h : mi < 256) : mi / 16 < 16 ∧ mi % 16 < 16 ∧ mi = 16 * (mi / 16) + mi % 16 := by omega
theorem jm_xca {mi : Nat} (h : mi < 256) : jm_xc mi = true := by
  obtain ⟨h1, h2, h3⟩ := jm_div16 h
  rw [h3]
  generalize mi / 16 = a at h1 ⊢
  generalize mi % 16 = d at h2 ⊢
  match a, h1 with
  | 0, _ => exact jm_xcb0 d h2
  | 1, _ => exact jm_xcb1 d h2
  | 2, _ => exact jm_xcb2 d h2
  | 3, _ => exact jm_xcb3 d h2
  | 4, _ => exact jm_xcb4 d h2
  | 5, _ => exact jm_xcb5 d h2
  | 6, _ => exact jm_xcb6 d h2
  | 7, _ => exact jm_xcb7 d h2
  | 8, _ => exact jm_xcb8 d h2
  | 9, _ => exact jm_xcb9 d h2
  | 10, _ => exact jm_xcb10 d h2
  | 11, _ => exact jm_xcb11 d h2
  | 12, _ => exact jm_xcb12 d h2
  | 13, _ => exact jm_xcb13 d h2
  | 14, _ => exact jm_xcb14 d h2
  | 15, _ => exact jm_xcb15 d h2
  | n + 16, h => exact absurd h (by omega)
theorem jm_xma {mi : Nat} (h : mi < 256) : jm_xm mi = true := by
  obtain ⟨h1, h2, h3⟩ := jm_div16 h
  rw [h3]
  generalize mi / 16 = a at h1 ⊢
  generalize mi % 16 = d at h2 ⊢
  match a, h1 with
  | 0, _ => exact List.all_eq_true.mp jm_okm0 d (List.mem_range.mpr h2)
  | 1, _ => exact List.all_eq_true.mp jm_okm1 d (List.mem_range.mpr h2)
  | 2, _ => exact List.all_eq_true.mp jm_okm2 d (List.mem_range.mpr h2)
  | 3, _ => exact List.all_eq_true.mp jm_okm3 d (List.mem_range.mpr h2)
  | 4, _ => exact List.all_eq_true.mp jm_okm4 d (List.mem_range.mpr h2)
  | 5, _ => exact List.all_eq_true.mp jm_okm5 d (List.mem_range.mpr h2)
  | 6, _ => exact List.all_eq_true.mp jm_okm6 d (List.mem_range.mpr h2)
  | 7, _ => exact List.all_eq_true.mp jm_okm7 d (List.mem_range.mpr h2)
  | 8, _ => exact List.all_eq_true.mp jm_okm8 d (List.mem_range.mpr h2)
  | 9, _ => exact List.all_eq_true.mp jm_okm9 d (List.mem_range.mpr h2)
  | 10, _ => exact List.all_eq_true.mp jm_okm10 d (List.mem_range.mpr h2)
  | 11, _ => exact List.all_eq_true.mp jm_okm11 d (List.mem_range.mpr h2)
  | 12, _ => exact List.all_eq_true.mp jm_okm12 d (List.mem_range.mpr h2)
  | 13, _ => exact List.all_eq_true.mp jm_okm13 d (List.mem_range.mpr h2)
  | 14, _ => exact List.all_eq_true.mp jm_okm14 d (List.mem_range.mpr h2)
  | 15, _ => exact List.all_eq_true.mp jm_okm15 d (List.mem_range.mpr h2)
  | n + 16, h => exact absurd h (by omega)
theorem jm_xpa {mi : Nat} (h : mi < 255) : jm_xp mi = true := by
  obtain ⟨h1, h2, h3⟩ := jm_div16 (mi := mi) (by omega)
  have h4 : 16 * (mi / 16) + mi % 16 < 255 := by omega
  rw [h3]
  generalize mi / 16 = a at h1 h4 ⊢
  generalize mi % 16 = d at h2 h4 ⊢
  match a, h1 with
  | 0, _ => exact List.all_eq_true.mp jm_okp0 d (List.mem_range.mpr h2)
  | 1, _ => exact List.all_eq_true.mp jm_okp1 d (List.mem_range.mpr h2)
  | 2, _ => exact List.all_eq_true.mp jm_okp2 d (List.mem_range.mpr h2)
  | 3, _ => exact List.all_eq_true.mp jm_okp3 d (List.mem_range.mpr h2)
  | 4, _ => exact List.all_eq_true.mp jm_okp4 d (List.mem_range.mpr h2)
  | 5, _ => exact List.all_eq_true.mp jm_okp5 d (List.mem_range.mpr h2)
  | 6, _ => exact List.all_eq_true.mp jm_okp6 d (List.mem_range.mpr h2)
  | 7, _ => exact List.all_eq_true.mp jm_okp7 d (List.mem_range.mpr h2)
  | 8, _ => exact List.all_eq_true.mp jm_okp8 d (List.mem_range.mpr h2)
  | 9, _ => exact List.all_eq_true.mp jm_okp9 d (List.mem_range.mpr h2)
  | 10, _ => exact List.all_eq_true.mp jm_okp10 d (List.mem_range.mpr h2)
  | 11, _ => exact List.all_eq_true.mp jm_okp11 d (List.mem_range.mpr h2)
  | 12, _ => exact List.all_eq_true.mp jm_okp12 d (List.mem_range.mpr h2)
  | 13, _ => exact List.all_eq_true.mp jm_okp13 d (List.mem_range.mpr h2)
  | 14, _ => exact List.all_eq_true.mp jm_okp14 d (List.mem_range.mpr h2)
  | 15, _ => exact List.all_eq_true.mp jm_okp15 d (List.mem_range.mpr (by omega))
  | n + 16, h => exact absurd h (by omega)
theorem jm_cix : (List.range 256).all (fun i => decide (jm_ci i < 18) && decide (1 ≤ jm_r0 i)) = true := by decide +kernel
theorem jm_ci18 {mi : Nat} (h : mi < 256) : jm_ci mi < 18 ∧ 1 ≤ jm_r0 mi := by
  have := List.all_eq_true.mp jm_cix mi (List.mem_range.mpr h)
  simpa using this
theorem jm_rk1 {mi : Nat} (h : mi < 256) (as : List Value) : 1 ≤ jm_rk mi as := by
  have := (jm_ci18 h).2
  unfold jm_rk
  split
  · exact this
  · split <;> omega
theorem jm_own_C {ci : Nat} (h : ci < 13) : jm_own.getD ci "" = jm_C ci := by
  match ci, h with
  | 0, _ => rfl
  | 1, _ => rfl
  | 2, _ => rfl
  | 3, _ => rfl
  | 4, _ => rfl
  | 5, _ => rfl
  | 6, _ => rfl
  | 7, _ => rfl
  | 8, _ => rfl
  | 9, _ => rfl
  | 10, _ => rfl
  | 11, _ => rfl
  | 12, _ => rfl
theorem jm_gD_in {α : Type} {l : List (List α)} {k : Nat} {x : α} (h : x ∈ l.getD k []) : x ∈ l.flatten := by
  by_cases hk : k < l.length
  · rw [List.getD_eq_getElem?_getD, List.getElem?_eq_getElem hk] at h
    exact List.mem_flatten.mpr ⟨_, List.getElem_mem hk, h⟩
  · rw [List.getD_eq_getElem?_getD, List.getElem?_eq_none (Nat.le_of_not_lt hk)] at h
    cases h
theorem jm_at_in {mi pc : Nat} {ins : Instr} (h : jm_at mi pc = some ins) : (pc, ins) ∈ jm_pg mi := jm_gD_in (jm_lkp h)
theorem jm_at_s {mi pc : Nat} {ins : Instr} (hm : mi < 256) (h : jm_at mi pc = some ins) : jm_xi mi (pc, ins) = true ∧ ∃ len, decode (jm_b mi) pc = .ok (ins, len) ∧ (jm_sw ins = false → len = jm_len ins) := by
  have h1 := List.all_eq_true.mp (jm_xca hm) _ (jm_at_in h)
  refine ⟨h1, ?_⟩
  unfold jm_xi at h1
  rw [Bool.and_eq_true] at h1
  have h2 := h1.1
  dsimp only at h2
  split at h2
  · next i' l e =>
    rw [Bool.and_eq_true, decide_eq_true_eq, Bool.or_eq_true, decide_eq_true_eq] at h2
    refine ⟨l, by rw [e, h2.1], fun q => ?_⟩
    rcases h2.2 with g | g
    · rw [q] at g; cases g
    · exact g
  · cases h2
def jm_wo (mi : Nat) : List Jvm.Cond := .code (jm_y mi) (jm_b mi) (jm_mx mi) (jm_ret mi) :: lw_tbl.filter goodWord
theorem jm_wo_good {mi : Nat} (h : mi < 255) : GoodIn jm_tb (jm_wo mi) := by
  intro w hw
  rcases List.mem_cons.mp hw with rfl | hw
  · have h1 := jm_xpa h
    unfold jm_xp at h1
    exact ⟨jm_tb_in (List.mem_of_getElem? (of_decide_eq_true h1)) rfl, good_of_word rfl⟩
  · obtain ⟨h1, h2⟩ := List.mem_filter.mp hw
    exact ⟨jm_tb_in h1 (by rw [h2]; rfl), good_of_word h2⟩
theorem jm_gf_n {a k r : Nat} {q st' : List Value} {H H' : jm_H} (h : jm_gf a k r q H = some (st', H')) : H' = H := (jm_gf_s h).1
set_option maxHeartbeats 2000000 in
theorem jm_hp_n {S : Option (Nat × (Nat → Int32))} {ins : Instr} {e : Nat × Nat × Nat × Int} {st st' : List Value} {H H' : jm_H} (h : jm_hp S ins e st H = some (st', H')) : jm_n H ≤ jm_n H' ∧ jm_s H ≤ jm_s H' := by
  unfold jm_hp at h
  split at h
  · split at h <;> cases h; exact ⟨Nat.le_refl _, Nat.le_refl _⟩
  · split at h <;> cases h; exact ⟨Nat.le_refl _, Nat.le_refl _⟩
  · split at h <;> cases h; exact ⟨Nat.le_refl _, Nat.le_refl _⟩
  · split at h
    · split at h
      · obtain rfl := jm_gf_n h; exact ⟨Nat.le_refl _, Nat.le_refl _⟩
      · cases h
    · cases h
  · split at h
    · unfold jm_pf at h
      split at h
      all_goals first | (split at h <;> cases h <;> exact ⟨Nat.le_refl _, Nat.le_refl _⟩) | cases h
    · cases h
  · split at h <;> cases h; exact ⟨Nat.le_succ _, Nat.le_add_right _ _⟩
  · split at h
    · split at h <;> cases h; exact ⟨Nat.le_succ _, Nat.le_add_right _ _⟩
    · cases h
  · split at h
    · split at h
      · split at h <;> cases h <;> exact ⟨Nat.le_succ _, Nat.le_add_right _ _⟩
      · cases h
    · cases h
  · split at h
    · split at h
      · split at h <;> cases h; exact ⟨Nat.le_refl _, Nat.le_refl _⟩
      · split at h <;> cases h; exact ⟨Nat.le_refl _, Nat.le_refl _⟩
    · cases h
  · split at h
    · split at h
      · split at h
        · split at h <;> cases h; exact ⟨Nat.le_refl _, Nat.le_refl _⟩
        · cases h
      · split at h <;> cases h; exact ⟨Nat.le_refl _, Nat.le_refl _⟩
    · cases h
  · split at h
    · split at h <;> cases h; exact ⟨Nat.le_refl _, Nat.le_refl _⟩
    · cases h
  · split at h
    · split at h <;> cases h; exact ⟨Nat.le_refl _, Nat.le_refl _⟩
    · cases h
  · split at h
    · split at h <;> cases h; exact ⟨Nat.le_refl _, Nat.le_refl _⟩
    · cases h
  · split at h
    · split at h <;> cases h; exact ⟨Nat.le_refl _, Nat.le_refl _⟩
    · cases h
  · split at h
    · split at h <;> cases h; exact ⟨Nat.le_refl _, Nat.le_refl _⟩
    · cases h
  · split at h
    · split at h
      · split at h
        · cases h; exact ⟨Nat.le_refl _, Nat.le_refl _⟩
        · split at h <;> cases h; exact ⟨Nat.le_refl _, Nat.le_refl _⟩
      · cases h
    · cases h
  · split at h
    · split at h <;> cases h; exact ⟨Nat.le_refl _, Nat.le_refl _⟩
    · cases h
  · cases h
theorem jm_hq_n {S : Option (Nat × (Nat → Int32))} {ins : Instr} {e : Nat × Nat × Nat × Int} {st st' : List Value} {H H' : jm_H} (h : jm_hq S ins e st H = some (st', H')) : jm_n H ≤ jm_n H' ∧ jm_s H ≤ jm_s H' := by
  unfold jm_hq at h
  split at h
  · next y hy => cases h; exact jm_hp_n hy
  · split at h
    · split at h <;> cases h
      exact ⟨Nat.le_succ _, Nat.le_add_right _ _⟩
    · cases h
theorem jm_cnt {S : Option (Nat × (Nat → Int32))} : ∀ (n D mi pc : Nat) (ls st : List Value) (H : jm_H) (r : Option Value) (H' : jm_H), jm_ev S n D mi pc ls st H = some (r, H') → jm_n H ≤ jm_n H' ∧ jm_s H ≤ jm_s H'
  | 0, D, mi, pc, ls, st, H, r, H', h => by cases h
  | n + 1, D, mi, pc, ls, st, H, r, H', h => by
    rw [jm_ev] at h
    split at h
    · cases h
    · split at h
      · split at h
        · cases h
        · exact jm_cnt n _ _ _ _ _ _ _ _ h
      · split at h
        · cases h
        · exact jm_cnt n _ _ _ _ _ _ _ _ h
      · split at h
        · cases h
        · exact jm_cnt n _ _ _ _ _ _ _ _ h
      · split at h
        · cases h
        · next x hx =>
          have h1 := jm_hq_n hx
          have h2 := jm_cnt n _ _ _ _ _ _ _ _ h
          exact ⟨Nat.le_trans h1.1 h2.1, Nat.le_trans h1.2 h2.2⟩
      · split at h <;> cases h
        exact ⟨Nat.le_refl _, Nat.le_refl _⟩
      · split at h
        · cases h
        · split at h
          · exact jm_cnt n _ _ _ _ _ _ _ _ h
          · split at h
            · split at h
              · cases h
              · next y hy =>
                have h1 := jm_cnt n _ _ _ _ _ _ y.1 y.2 hy
                have h2 := jm_cnt n _ _ _ _ _ _ _ _ h
                exact ⟨Nat.le_trans h1.1 h2.1, Nat.le_trans h1.2 h2.2⟩
            · cases h
theorem jm_cut_s {st as q : List Value} {k : Nat} (h : jm_cut st k = some (as, q)) : st = as.reverse ++ q ∧ as.length = k := by
  unfold jm_cut at h
  split at h
  · cases h
  · cases h
    refine ⟨by rw [List.reverse_reverse, List.take_append_drop], ?_⟩
    rw [List.length_reverse, List.length_take]
    omega
theorem jm_ofW {l : Launch} {y : MethodName} {ws ws' : List Jvm.Cond} {rm : Room} {Pc : Array Value → State → Prop} {Qc : Array Value → State → Outcome → State → Prop} {mc ms : Nat} {free : Addr → Prop} {cc : ByteArray} {maxL : Nat} {ret : Option FieldType}
    (hy : plainFor y = true) (hw : ws = Cond.code y cc maxL ret :: ws')
    (body : ∀ p e s m args below meth c s₁, BodyLoose p l y (headSpec ws rm) cc maxL ret e s m args below meth c s₁ → c.maxLocals = maxL → Pc args s →
      W p l e (headSpec ws rm).room s m args below meth c s.heap [] 0 0 (MQ below Qc args s mc ms free) (entryFrame m args maxL)) : Met l y ws rm Pc Qc mc ms free := by
  refine MetFree.of_bodySF (code := cc) (maxLocals := maxL) (ret := ret) hy ?_ ?_
  · intro args s m h hn
    obtain ⟨meth, c, h1, h2, h3, h4, h5, h6, -, -⟩ := Cond.code_spec hn (atoms_spec (ws := ws) h _ (by rw [hw]; exact List.mem_cons_self))
    exact ⟨meth, c, h1, h2, h3, h4, h5, h6⟩
  · intro p e s m args below meth c s₁ B hml hP _
    have hh0 : s₁.heap = s.heap := by rw [B.state]; rfl
    obtain ⟨t, a1, o, b1, b2, b3⟩ := body p e s m args below meth c s₁ B hml hP s₁ hh0 (Stand.of_body B)
    exact ⟨t, o, a1, b1, b2, ⟨b3.1, b3.2⟩⟩
section JSO
variable {l : Launch} {base b L : Nat} {xs : Nat → Int32} {H00 : Heap} {D : va_G} {dA : Nat → ClassId}
/-- the answer and the heap behind a method -/
def jm_Q (D : va_G) (dA : Nat → ClassId) (base b : Nat) (H00 : Heap) (r : Option Value) (H' : jm_H) : Array Value → State → Outcome → State → Prop := fun _ _ o t => o = .returned (r.map (jm_cv base b)) ∧ jm_W0 D dA base b H00 t.heap H'
def jm_P (D : va_G) (dA : Nat → ClassId) (base b L : Nat) (xs : Nat → Int32) (H00 : Heap) (as : List Value) (H : jm_H) : Array Value → State → Prop := va_Pc (as.map (jm_cv base b)) (fun U => jm_W0 D dA base b H00 U.heap H ∧ jm_K D dA b L xs H00 U)
/-- 'the interpreter comes to r, H'' is the machine's: from every frame of the method that stands for it -/
def jm_Go (l : Launch) (D : va_G) (dA : Nat → ClassId) (base b L : Nat) (xs : Nat → Int32) (H00 : Heap) (Dp mi pc : Nat) (ls st : List Value) (H : jm_H) (r : Option Value) (H' : jm_H) : Prop :=
  ∀ (p : Program) (e : Env) (R : Room) (s : State) (m : MethodId) (args : Array Value) (below : List Frame) (meth : Method) (c : Code) (M : Heap) (locs : List Loc) (cells slots : Nat) (A : Array Slot),
    jm_Cx D dA base b L xs H00 mi p s m args meth c → jm_W0 D dA base b H00 M H → jm_lr base b ls A (jm_mx mi) → (∀ q ∈ locs, base ≤ q.base) → Dp ≤ R.frames → Dp * 60 ≤ R.locals → cells + (jm_n H' - jm_n H) ≤ R.cells → slots + (jm_s H' - jm_s H) ≤ R.slots →
    W p l e R s m args below meth c M locs cells slots (MQ below (jm_Q D dA base b H00 r H') args s (cells + (jm_n H' - jm_n H)) (slots + (jm_s H' - jm_s H)) (fun q => base ≤ q)) (F0 m pc A (st.map (jm_cv base b)))
theorem jm_xm_all {mi : Nat} (h : jm_xm mi = true) : (jm_y mi).cls = jm_own.getD (jm_ci mi) "" ∧ ((jm_y mi).cls ≠ "java/lang/invoke/MethodHandle" ∧ (jm_y mi).cls ≠ "java/lang/invoke/VarHandle") ∧ (parseMethodDescriptor (jm_y mi).desc).map (fun d => d.parameters.length) = some (jm_np mi) ∧ plainFor (jm_y mi) = true ∧ jm_mx mi ≤ 22 := by
  unfold jm_xm at h
  simp only [Bool.and_eq_true, decide_eq_true_eq] at h
  exact ⟨h.1.1.1.1, h.1.1.1.2, h.1.1.2, h.1.2, h.2⟩
set_option maxHeartbeats 1000000 in
/-- a method's contract, out of a run of the interpreter from its entry -/
theorem jm_met {mj Dp : Nat} {as : List Value} {H H' : jm_H} {r : Option Value} (hm : mj < 255) (hb : b < base) (hs0 : H00.size = base) (hen : (as.flatMap (fun v => if jm_v2 v then [v, .null] else [v])).length ≤ jm_mx mj) (hgo : jm_Go l D dA base b L xs H00 Dp mj 0 (jm_en mj as) [] H r H') :
    Met l (jm_y mj) (jm_wo mj) ({ frames := Dp, cells := jm_n H' - jm_n H, slots := jm_s H' - jm_s H, locals := Dp * 60 }) (jm_P D dA base b L xs H00 as H) (jm_Q D dA base b H00 r H') (jm_n H' - jm_n H) (jm_s H' - jm_s H) (fun q => base ≤ q) := by
  have hxm := jm_xma (mi := mj) (by omega)
  refine jm_ofW (cc := jm_b mj) (maxL := jm_mx mj) (ret := jm_ret mj) (jm_xm_all hxm).2.2.2.1 rfl ?_
  intro p e s m args below meth c s₁ B hml hv
  obtain ⟨rfl, hW, hK⟩ := hv
  have hts0 := atoms_spec (ws := jm_wo mj) B.pre
  have hts : ∀ w ∈ jm_tb, w.before (as.map (jm_cv base b)).toArray s = true := by
    intro w hw
    obtain ⟨hw, hg⟩ := jm_tb_of hw
    by_cases hg1 : goodWord w = true
    · exact hts0 w (List.mem_cons_of_mem _ (List.mem_filter.mpr ⟨hw, hg1⟩))
    · have hg2 : jm_gw w = true := by
        rcases Bool.or_eq_true_iff.mp hg with h | h
        · exact absurd h hg1
        · exact h
      have h1 := hK.2.2 w hw hg2
      unfold jm_gw at hg2
      split at hg2
      · exact va_Nw.use rfl h1
      · exact va_AO.use h1
      · cases hg2
  have hown : s.vm.findClass (jm_y mj).cls = some m.cls := findClass_of_methodNamed B.named
  rw [lg_entry_eq]
  have hlr := jm_lr_en (base := base) (b := b) (n := jm_mx mj) rfl hen
  have := hgo p e (headSpec (jm_wo mj) ({ frames := Dp, cells := jm_n H' - jm_n H, slots := jm_s H' - jm_s H, locals := Dp * 60 })).room s m _ below meth c s.heap [] 0 0 _ ⟨B.exec, B.bytes, B.returns, hml, hown, hts, B.notSynchronized, fun hn => (name_of_methodNamed B.named B.method).1.trans hn, hK, hxm, hb, hs0⟩ hW hlr (fun _ h => by cases h) (Nat.le_refl _) (Nat.le_refl _) (by show 0 + _ ≤ _; rw [Nat.zero_add]; exact Nat.le_refl _) (by show 0 + _ ≤ _; rw [Nat.zero_add]; exact Nat.le_refl _)
  rw [Nat.zero_add, Nat.zero_add] at this
  exact this
variable {p : Program} {e : Env} {R : Room} {s : State} {m : MethodId} {args : Array Value} {below : List Frame} {meth : Method} {c : Code} {M : Heap} {locs : List Loc} {cells slots : Nat} {Q : State → Prop}
theorem jm_run_W {mc ms pc : Nat} {A : Array Slot} {st0 rest : List Value} {v0 : Option Value} {PW : Heap → Prop} {free : Addr → Prop} (hr : va_Run p l e R s m args below meth c M locs cells slots mc ms (F0 m pc A st0) rest (fun _ o t => o = .returned v0 ∧ PW t.heap) free)
    (kk : ∀ (M1 : Heap) (L1 : List Loc), PW M1 → (∀ q ∈ L1, free q.base) → W p l e R s m args below meth c M1 (locs ++ L1) (cells + mc) (slots + ms) Q (F0 m (pc + 3) A (v0.toList ++ rest))) : W p l e R s m args below meth c M locs cells slots Q (F0 m pc A st0) := by
  intro T hT X
  obtain ⟨v, st₀, t, T', L1, h0, X', hL, e1, e2, ⟨hv, hp⟩, st⟩ := hr T hT X
  cases hv
  obtain ⟨t2, a1, b1⟩ := kk T'.heap L1 (by rw [e1]; exact hp) hL T' rfl X'
  exact ⟨t2, st t2 a1, b1⟩
theorem jm_blind {as : List Value} {H : jm_H} : FrameBlind (jm_P D dA base b L xs H00 as H) := fun a U g mk h => ⟨h.1, h.2.1, h.2.2.blind g mk a⟩
theorem jm_pre {as : List Value} {H : jm_H} (hW : jm_W0 D dA base b H00 M H) (hK : jm_K D dA b L xs H00 s) : ∀ U : State, U.heap = M → s.WarmedH U.vm → jm_P D dA base b L xs H00 as H (as.map (jm_cv base b)).toArray U := fun U hU hW' => ⟨rfl, by rw [hU]; exact hW, hK.moved hW'⟩
end JSO
