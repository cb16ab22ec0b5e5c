theorem d_W_need_0 : decode prog_6_method_6_code 0 = .ok (.iload_n 1, 1) := by decide +kernel
theorem d_W_need_1 : decode prog_6_method_6_code 1 = .ok (.ifCond .ne 20, 3) := by decide +kernel
theorem d_W_need_4 : decode prog_6_method_6_code 4 = .ok (.aload_n 0, 1) := by decide +kernel
theorem d_W_need_5 : decode prog_6_method_6_code 5 = .ok (.getfield 20, 3) := by decide +kernel
theorem d_W_need_8 : decode prog_6_method_6_code 8 = .ok (.ifCond .ne 13, 3) := by decide +kernel
theorem d_W_need_11 : decode prog_6_method_6_code 11 = .ok (.aload_n 0, 1) := by decide +kernel
theorem d_W_need_12 : decode prog_6_method_6_code 12 = .ok (.iload_n 2, 1) := by decide +kernel
theorem d_W_need_13 : decode prog_6_method_6_code 13 = .ok (.putfield 20, 3) := by decide +kernel
theorem d_W_need_16 : decode prog_6_method_6_code 16 = .ok (.aload_n 0, 1) := by decide +kernel
theorem d_W_need_17 : decode prog_6_method_6_code 17 = .ok (.iload_n 3, 1) := by decide +kernel
theorem d_W_need_18 : decode prog_6_method_6_code 18 = .ok (.putfield 23, 3) := by decide +kernel
theorem d_W_need_21 : decode prog_6_method_6_code 21 = .ok (.return_, 1) := by decide +kernel
theorem d_W_numberAt_0 : decode prog_6_method_7_code 0 = .ok (.iload_n 1, 1) := by decide +kernel
theorem d_W_numberAt_1 : decode prog_6_method_7_code 1 = .ok (.ifCond .lt 13, 3) := by decide +kernel
theorem d_W_numberAt_4 : decode prog_6_method_7_code 4 = .ok (.iload_n 1, 1) := by decide +kernel
theorem d_W_numberAt_5 : decode prog_6_method_7_code 5 = .ok (.aload_n 0, 1) := by decide +kernel
theorem d_W_numberAt_6 : decode prog_6_method_7_code 6 = .ok (.getfield 13, 3) := by decide +kernel
theorem d_W_numberAt_9 : decode prog_6_method_7_code 9 = .ok (.iload_n 2, 1) := by decide +kernel
theorem d_W_numberAt_10 : decode prog_6_method_7_code 10 = .ok (.isub, 1) := by decide +kernel
theorem d_W_numberAt_11 : decode prog_6_method_7_code 11 = .ok (.if_icmp .le 5, 3) := by decide +kernel
theorem d_W_numberAt_14 : decode prog_6_method_7_code 14 = .ok (.iconst 0, 1) := by decide +kernel
theorem d_W_numberAt_15 : decode prog_6_method_7_code 15 = .ok (.ireturn, 1) := by decide +kernel
theorem d_W_numberAt_16 : decode prog_6_method_7_code 16 = .ok (.iconst 0, 1) := by decide +kernel
theorem d_W_numberAt_17 : decode prog_6_method_7_code 17 = .ok (.istore_n 3, 1) := by decide +kernel
theorem d_W_numberAt_18 : decode prog_6_method_7_code 18 = .ok (.iload_n 1, 1) := by decide +kernel
theorem d_W_numberAt_19 : decode prog_6_method_7_code 19 = .ok (.istore 4, 2) := by decide +kernel
theorem d_W_numberAt_21 : decode prog_6_method_7_code 21 = .ok (.iload 4, 2) := by decide +kernel
theorem d_W_numberAt_23 : decode prog_6_method_7_code 23 = .ok (.iload_n 1, 1) := by decide +kernel
theorem d_W_numberAt_24 : decode prog_6_method_7_code 24 = .ok (.iload_n 2, 1) := by decide +kernel
theorem d_W_numberAt_25 : decode prog_6_method_7_code 25 = .ok (.iadd, 1) := by decide +kernel
theorem d_W_numberAt_26 : decode prog_6_method_7_code 26 = .ok (.if_icmp .ge 26, 3) := by decide +kernel
theorem d_W_numberAt_29 : decode prog_6_method_7_code 29 = .ok (.iload_n 3, 1) := by decide +kernel
theorem d_W_numberAt_30 : decode prog_6_method_7_code 30 = .ok (.bipush 8, 2) := by decide +kernel
theorem d_W_numberAt_32 : decode prog_6_method_7_code 32 = .ok (.ishl, 1) := by decide +kernel
theorem d_W_numberAt_33 : decode prog_6_method_7_code 33 = .ok (.aload_n 0, 1) := by decide +kernel
theorem d_W_numberAt_34 : decode prog_6_method_7_code 34 = .ok (.getfield 9, 3) := by decide +kernel
theorem d_W_numberAt_37 : decode prog_6_method_7_code 37 = .ok (.iload 4, 2) := by decide +kernel
theorem d_W_numberAt_39 : decode prog_6_method_7_code 39 = .ok (.baload, 1) := by decide +kernel
theorem d_W_numberAt_40 : decode prog_6_method_7_code 40 = .ok (.sipush 255, 3) := by decide +kernel
theorem d_W_numberAt_43 : decode prog_6_method_7_code 43 = .ok (.iand, 1) := by decide +kernel
theorem d_W_numberAt_44 : decode prog_6_method_7_code 44 = .ok (.ior, 1) := by decide +kernel
theorem d_W_numberAt_45 : decode prog_6_method_7_code 45 = .ok (.istore_n 3, 1) := by decide +kernel
theorem d_W_numberAt_46 : decode prog_6_method_7_code 46 = .ok (.iinc 4 1, 3) := by decide +kernel
theorem d_W_numberAt_49 : decode prog_6_method_7_code 49 = .ok (.goto (-28), 3) := by decide +kernel
theorem d_W_numberAt_52 : decode prog_6_method_7_code 52 = .ok (.iload_n 3, 1) := by decide +kernel
theorem d_W_numberAt_53 : decode prog_6_method_7_code 53 = .ok (.ireturn, 1) := by decide +kernel
theorem d_W_next_0 : decode prog_6_method_8_code 0 = .ok (.aload_n 0, 1) := by decide +kernel
theorem d_W_next_1 : decode prog_6_method_8_code 1 = .ok (.getfield 20, 3) := by decide +kernel
theorem d_W_next_4 : decode prog_6_method_8_code 4 = .ok (.ifCond .eq 5, 3) := by decide +kernel
theorem d_W_next_7 : decode prog_6_method_8_code 7 = .ok (.iconst 0, 1) := by decide +kernel
theorem d_W_next_8 : decode prog_6_method_8_code 8 = .ok (.ireturn, 1) := by decide +kernel
theorem d_W_next_9 : decode prog_6_method_8_code 9 = .ok (.aload_n 0, 1) := by decide +kernel
theorem d_W_next_10 : decode prog_6_method_8_code 10 = .ok (.getfield 17, 3) := by decide +kernel
theorem d_W_next_13 : decode prog_6_method_8_code 13 = .ok (.aload_n 0, 1) := by decide +kernel
theorem d_W_next_14 : decode prog_6_method_8_code 14 = .ok (.getfield 13, 3) := by decide +kernel
theorem d_W_next_17 : decode prog_6_method_8_code 17 = .ok (.iload_n 1, 1) := by decide +kernel
theorem d_W_next_18 : decode prog_6_method_8_code 18 = .ok (.isub, 1) := by decide +kernel
theorem d_W_next_19 : decode prog_6_method_8_code 19 = .ok (.if_icmp .le 18, 3) := by decide +kernel
theorem d_W_next_22 : decode prog_6_method_8_code 22 = .ok (.aload_n 0, 1) := by decide +kernel
theorem d_W_next_23 : decode prog_6_method_8_code 23 = .ok (.iconst 1, 1) := by decide +kernel
theorem d_W_next_24 : decode prog_6_method_8_code 24 = .ok (.putfield 20, 3) := by decide +kernel
theorem d_W_next_27 : decode prog_6_method_8_code 27 = .ok (.aload_n 0, 1) := by decide +kernel
theorem d_W_next_28 : decode prog_6_method_8_code 28 = .ok (.aload_n 0, 1) := by decide +kernel
theorem d_W_next_29 : decode prog_6_method_8_code 29 = .ok (.getfield 13, 3) := by decide +kernel
theorem d_W_next_32 : decode prog_6_method_8_code 32 = .ok (.putfield 23, 3) := by decide +kernel
theorem d_W_next_35 : decode prog_6_method_8_code 35 = .ok (.iconst 0, 1) := by decide +kernel
theorem d_W_next_36 : decode prog_6_method_8_code 36 = .ok (.ireturn, 1) := by decide +kernel
theorem d_W_next_37 : decode prog_6_method_8_code 37 = .ok (.aload_n 0, 1) := by decide +kernel
theorem d_W_next_38 : decode prog_6_method_8_code 38 = .ok (.aload_n 0, 1) := by decide +kernel
theorem d_W_next_39 : decode prog_6_method_8_code 39 = .ok (.getfield 17, 3) := by decide +kernel
theorem d_W_next_42 : decode prog_6_method_8_code 42 = .ok (.iload_n 1, 1) := by decide +kernel
theorem d_W_next_43 : decode prog_6_method_8_code 43 = .ok (.invokevirtual 26, 3) := by decide +kernel
theorem d_W_next_46 : decode prog_6_method_8_code 46 = .ok (.istore_n 2, 1) := by decide +kernel
theorem d_W_next_47 : decode prog_6_method_8_code 47 = .ok (.aload_n 0, 1) := by decide +kernel
theorem d_W_next_48 : decode prog_6_method_8_code 48 = .ok (.dup, 1) := by decide +kernel
theorem d_W_next_49 : decode prog_6_method_8_code 49 = .ok (.getfield 17, 3) := by decide +kernel
theorem d_W_next_52 : decode prog_6_method_8_code 52 = .ok (.iload_n 1, 1) := by decide +kernel
theorem d_W_next_53 : decode prog_6_method_8_code 53 = .ok (.iadd, 1) := by decide +kernel
theorem d_W_next_54 : decode prog_6_method_8_code 54 = .ok (.putfield 17, 3) := by decide +kernel
theorem d_W_next_57 : decode prog_6_method_8_code 57 = .ok (.iload_n 2, 1) := by decide +kernel
theorem d_W_next_58 : decode prog_6_method_8_code 58 = .ok (.ireturn, 1) := by decide +kernel
theorem d_W_sound_0 : decode prog_6_method_5_code 0 = .ok (.aload_n 0, 1) := by decide +kernel
theorem d_W_sound_1 : decode prog_6_method_5_code 1 = .ok (.getfield 20, 3) := by decide +kernel
theorem d_W_sound_4 : decode prog_6_method_5_code 4 = .ok (.ifCond .ne 7, 3) := by decide +kernel
theorem d_W_sound_7 : decode prog_6_method_5_code 7 = .ok (.iconst 1, 1) := by decide +kernel
theorem d_W_sound_8 : decode prog_6_method_5_code 8 = .ok (.goto 4, 3) := by decide +kernel
theorem d_W_sound_11 : decode prog_6_method_5_code 11 = .ok (.iconst 0, 1) := by decide +kernel
theorem d_W_sound_12 : decode prog_6_method_5_code 12 = .ok (.ireturn, 1) := by decide +kernel
theorem d_W_begin_0 : decode prog_6_method_4_code 0 = .ok (.aload_n 0, 1) := by decide +kernel
theorem d_W_begin_1 : decode prog_6_method_4_code 1 = .ok (.iconst 0, 1) := by decide +kernel
theorem d_W_begin_2 : decode prog_6_method_4_code 2 = .ok (.putfield 17, 3) := by decide +kernel
theorem d_W_begin_5 : decode prog_6_method_4_code 5 = .ok (.aload_n 0, 1) := by decide +kernel
theorem d_W_begin_6 : decode prog_6_method_4_code 6 = .ok (.iconst 0, 1) := by decide +kernel
theorem d_W_begin_7 : decode prog_6_method_4_code 7 = .ok (.putfield 20, 3) := by decide +kernel
theorem d_W_begin_10 : decode prog_6_method_4_code 10 = .ok (.aload_n 0, 1) := by decide +kernel
theorem d_W_begin_11 : decode prog_6_method_4_code 11 = .ok (.iconst 0, 1) := by decide +kernel
theorem d_W_begin_12 : decode prog_6_method_4_code 12 = .ok (.putfield 23, 3) := by decide +kernel
theorem d_W_begin_15 : decode prog_6_method_4_code 15 = .ok (.return_, 1) := by decide +kernel
theorem d_W_append_0 : decode prog_6_method_2_code 0 = .ok (.aload_n 0, 1) := by decide +kernel
theorem d_W_append_1 : decode prog_6_method_2_code 1 = .ok (.getfield 13, 3) := by decide +kernel
theorem d_W_append_4 : decode prog_6_method_2_code 4 = .ok (.sipush 4000, 3) := by decide +kernel
theorem d_W_append_7 : decode prog_6_method_2_code 7 = .ok (.if_icmp .ge 24, 3) := by decide +kernel
theorem d_W_append_10 : decode prog_6_method_2_code 10 = .ok (.aload_n 0, 1) := by decide +kernel
theorem d_W_append_11 : decode prog_6_method_2_code 11 = .ok (.getfield 9, 3) := by decide +kernel
theorem d_W_append_14 : decode prog_6_method_2_code 14 = .ok (.aload_n 0, 1) := by decide +kernel
theorem d_W_append_15 : decode prog_6_method_2_code 15 = .ok (.getfield 13, 3) := by decide +kernel
theorem d_W_append_18 : decode prog_6_method_2_code 18 = .ok (.iload_n 1, 1) := by decide +kernel
theorem d_W_append_19 : decode prog_6_method_2_code 19 = .ok (.i2b, 1) := by decide +kernel
theorem d_W_append_20 : decode prog_6_method_2_code 20 = .ok (.bastore, 1) := by decide +kernel
theorem d_W_append_21 : decode prog_6_method_2_code 21 = .ok (.aload_n 0, 1) := by decide +kernel
theorem d_W_append_22 : decode prog_6_method_2_code 22 = .ok (.dup, 1) := by decide +kernel
theorem d_W_append_23 : decode prog_6_method_2_code 23 = .ok (.getfield 13, 3) := by decide +kernel
theorem d_W_append_26 : decode prog_6_method_2_code 26 = .ok (.iconst 1, 1) := by decide +kernel
theorem d_W_append_27 : decode prog_6_method_2_code 27 = .ok (.iadd, 1) := by decide +kernel
theorem d_W_append_28 : decode prog_6_method_2_code 28 = .ok (.putfield 13, 3) := by decide +kernel
theorem d_W_append_31 : decode prog_6_method_2_code 31 = .ok (.return_, 1) := by decide +kernel
theorem d_W_flip_0 : decode prog_6_method_3_code 0 = .ok (.iload_n 1, 1) := by decide +kernel
theorem d_W_flip_1 : decode prog_6_method_3_code 1 = .ok (.ifCond .lt 26, 3) := by decide +kernel
theorem d_W_flip_4 : decode prog_6_method_3_code 4 = .ok (.iload_n 1, 1) := by decide +kernel
theorem d_W_flip_5 : decode prog_6_method_3_code 5 = .ok (.aload_n 0, 1) := by decide +kernel
theorem d_W_flip_6 : decode prog_6_method_3_code 6 = .ok (.getfield 13, 3) := by decide +kernel
theorem d_W_flip_9 : decode prog_6_method_3_code 9 = .ok (.if_icmp .ge 18, 3) := by decide +kernel
theorem d_W_flip_12 : decode prog_6_method_3_code 12 = .ok (.aload_n 0, 1) := by decide +kernel
theorem d_W_flip_13 : decode prog_6_method_3_code 13 = .ok (.getfield 9, 3) := by decide +kernel
theorem d_W_flip_16 : decode prog_6_method_3_code 16 = .ok (.iload_n 1, 1) := by decide +kernel
theorem d_W_flip_17 : decode prog_6_method_3_code 17 = .ok (.aload_n 0, 1) := by decide +kernel
theorem d_W_flip_18 : decode prog_6_method_3_code 18 = .ok (.getfield 9, 3) := by decide +kernel
theorem d_W_flip_21 : decode prog_6_method_3_code 21 = .ok (.iload_n 1, 1) := by decide +kernel
theorem d_W_flip_22 : decode prog_6_method_3_code 22 = .ok (.baload, 1) := by decide +kernel
theorem d_W_flip_23 : decode prog_6_method_3_code 23 = .ok (.iload_n 2, 1) := by decide +kernel
theorem d_W_flip_24 : decode prog_6_method_3_code 24 = .ok (.ixor, 1) := by decide +kernel
theorem d_W_flip_25 : decode prog_6_method_3_code 25 = .ok (.i2b, 1) := by decide +kernel
theorem d_W_flip_26 : decode prog_6_method_3_code 26 = .ok (.bastore, 1) := by decide +kernel
theorem d_W_flip_27 : decode prog_6_method_3_code 27 = .ok (.return_, 1) := by decide +kernel
def rm_W_need : Room := { frames := 0, cells := 0, slots := 0, locals := 0 }
noncomputable def f_W_need (u : St) (x1 : Int32) (x2 : Int32) (x3 : Int32) : Option (St) := cT (if x1 = 0 then (if (u.1 2) = 0 then (bnd (sv u 2 x2) fun u3 => bnd (sv u3 3 x3) fun u4 => some (u4)) else (some (u))) else (some (u))) fun (u1 : St) => some u1
set_option maxHeartbeats 4000000 in
set_option maxRecDepth 100000 in
theorem c_W_need {Z : zT} {D : va_G} {cs : Nat → ClassId} {a : Nat → Nat} (hw : wD (xW a cs)) (hz : zOK Z) (l : Launch) {u : St} {x1 : Int32} {x2 : Int32} {x3 : Int32} {u' : St} (hk : f_W_need u x1 x2 x3 = some u') : KV clA D cs (xW a cs) Z l y_W_need (.code y_W_need prog_6_method_6_code 4 (Option.none : Option Jvm.ClassFile.FieldType)) rm_W_need [.ref (a 4), .int x1, .int x2, .int x3] u u' := by
  unfold f_W_need at hk
  refine KV.of (by decide) (Nat.le_of_ble_eq_true rfl) hw hz ?_
  intro p e s m args below meth c Q C I hQ ls hl
  have hl : lv_has ls 4 [(0, .ref (a 4)), (1, .int x1), (2, .int x2), (3, .int x3)] := hl
  have hx := C.1.1
  have hb := C.1.2.1
  refine lv_iload_n hx hb d_W_need_0 rfl (lv_at hl 1 rfl) ?_
  obtain ⟨u1, hj2, hk⟩ := cT_u hk
  have Khj2 : ∀ (H : Heap) (locs : List Loc) (ls : Array Slot), Dy clA D (xW a cs) s H locs u1 → lv_has ls 4 [] → W p l e rm_W_need s m args below meth c H locs 0 0 Q (F0 m 21 ls []) := by
    intro H locs ls I hl
    exact hQ _ _ _ _ _ I hk d_W_need_21
  refine lv_if_ne (tgt := 21) hx hb d_W_need_1 (by decide) (fun hc => ?_) (fun hc => ?_)
  · replace hj2 := ie_u hc hj2
    cases hj2
    exact Khj2 _ _ _ I (lv_sub hl [] rfl)
  · replace hj2 := it_u hc hj2
    refine lv_aload_n hx hb d_W_need_4 rfl (lv_at hl 0 rfl) ?_
    refine g_W_broken C I k_41 d_W_need_5 ?_
    refine lv_if_ne (tgt := 21) hx hb d_W_need_8 (by decide) (fun hc => ?_) (fun hc => ?_)
    · replace hj2 := ie_u hc hj2
      cases hj2
      exact Khj2 _ _ _ I (lv_sub hl [] rfl)
    · replace hj2 := it_u hc hj2
      refine lv_aload_n hx hb d_W_need_11 rfl (lv_at hl 0 rfl) ?_
      refine lv_iload_n hx hb d_W_need_12 rfl (lv_at hl 2 rfl) ?_
      refine p_W_broken C I k_41 d_W_need_13 (fun H locs I => ?_)
      obtain ⟨u3, hu, hj2⟩ := bnd_u hj2
      rw [hu] at I
      clear hu
      refine lv_aload_n hx hb d_W_need_16 rfl (lv_at hl 0 rfl) ?_
      refine lv_iload_n hx hb d_W_need_17 rfl (lv_at hl 3 rfl) ?_
      refine p_W_place C I k_43 d_W_need_18 (fun H locs I => ?_)
      obtain ⟨u4, hu, hj2⟩ := bnd_u hj2
      rw [hu] at I
      clear hu
      cases hj2
      exact Khj2 _ _ _ I (lv_sub hl [] rfl)
def rm_W_numberAt : Room := { frames := 0, cells := 0, slots := 0, locals := 0 }
noncomputable def f_W_numberAt_L21 (x1 : Int32) (x2 : Int32) (u : St) : Nat → Int32 → Int32 → Option (Int32)
  | 0, _, _ => none
  | n + 1, x3, x4 => if (x1 + x2) ≤ x4 then (some (x3)) else (gd x4 4000 (f_W_numberAt_L21 x1 x2 u n ((x3 <<< (8 &&& 31)) ||| ((u.2 0 x4.toNatClampNeg) &&& 255)) (x4 + 1)))
noncomputable def f_W_numberAt (u : St) (x1 : Int32) (x2 : Int32) : Option (Int32 × St) := if x1 < 0 then (some (0, u)) else (if x1 ≤ ((u.1 0) - x2) then (cT (f_W_numberAt_L21 x1 x2 u FU 0 x1) fun (z1 : Int32) => some (z1, u)) else (some (0, u)))
set_option maxHeartbeats 4000000 in
set_option maxRecDepth 100000 in
theorem w_W_numberAt_L21 {Z : zT} {D : va_G} {cs : Nat → ClassId} {a : Nat → Nat} {p : Program} {l : Launch} {e : Env} {s : State} {m : MethodId} {args : Array Value} {below : List Frame} {meth : Method} {c : Code} {Q : State → Prop}  {o3 : Int32} {x1 : Int32} {x2 : Int32} {u : St} (C : Cx clA R_W prog_6_method_7_code 5 D cs (xW a cs) Z p s m args c) (hE : ∀ (H : Heap) (locs : List Loc) (ls : Array Slot), Dy clA D (xW a cs) s H locs u → lv_has ls 5 [(3, .int o3)] → W p l e rm_W_numberAt s m args below meth c H locs 0 0 Q (F0 m 52 ls [])) : ∀ (n : Nat) (x3 : Int32) (x4 : Int32) (H : Heap) (locs : List Loc) (ls : Array Slot), f_W_numberAt_L21 x1 x2 u n x3 x4 = some o3 → Dy clA D (xW a cs) s H locs u → lv_has ls 5 [(0, .ref (a 4)), (1, .int x1), (2, .int x2), (3, .int x3), (4, .int x4)] → W p l e rm_W_numberAt s m args below meth c H locs 0 0 Q (F0 m 21 ls []) := by
  have hx := C.1.1
  have hb := C.1.2.1
  intro n
  induction n with
  | zero =>
    intro x3 x4 H locs ls hk I hl
    rw [f_W_numberAt_L21] at hk
    cases hk
  | succ n ih =>
    intro x3 x4 H locs ls hk I hl
    rw [f_W_numberAt_L21] at hk
    refine lv_iload hx hb d_W_numberAt_21 (lv_at hl 4 rfl) ?_
    refine lv_iload_n hx hb d_W_numberAt_23 rfl (lv_at hl 1 rfl) ?_
    refine lv_iload_n hx hb d_W_numberAt_24 rfl (lv_at hl 2 rfl) ?_
    refine lv_iadd hx hb d_W_numberAt_25 ?_
    refine lv_icmp_ge (tgt := 52) hx hb d_W_numberAt_26 (by decide) (fun hc => ?_) (fun hc => ?_)
    · replace hk := it_u hc hk
      cases hk
      exact hE _ _ _ I (lv_sub hl [3] rfl)
    · replace hk := ie_u hc hk
      refine lv_iload_n hx hb d_W_numberAt_29 rfl (lv_at hl 3 rfl) ?_
      refine lv_bipush (v := 8) hx hb d_W_numberAt_30 (by decide) ?_
      refine lv_ishl hx hb d_W_numberAt_32 ?_
      refine lv_aload_n hx hb d_W_numberAt_33 rfl (lv_at hl 0 rfl) ?_
      refine g_W_row C I k_30 d_W_numberAt_34 ?_
      refine lv_iload hx hb d_W_numberAt_37 (lv_at hl 4 rfl) ?_
      obtain ⟨hi, hk⟩ := gd_u hk
      refine l_W_row C I hi d_W_numberAt_39 ?_
      refine lv_sipush (v := 255) hx hb d_W_numberAt_40 (by decide) ?_
      refine lv_iand hx hb d_W_numberAt_43 ?_
      refine lv_ior hx hb d_W_numberAt_44 ?_
      refine lv_istore_n (lv' := [(3, .int ((x3 <<< (8 &&& 31)) ||| ((u.2 0 x4.toNatClampNeg) &&& 255))), (0, .ref (a 4)), (1, .int x1), (2, .int x2), (4, .int x4)]) hx hb d_W_numberAt_45 rfl hl (by decide) rfl (fun ls hl => ?_)
      refine lv_iinc (v := (x4 + 1)) (lv' := [(4, .int (x4 + 1)), (3, .int ((x3 <<< (8 &&& 31)) ||| ((u.2 0 x4.toNatClampNeg) &&& 255))), (0, .ref (a 4)), (1, .int x1), (2, .int x2)]) hx hb d_W_numberAt_46 hl (k := 4) rfl rfl (by decide) rfl (fun ls hl => ?_)
      refine lv_goto (tgt := 21) hx hb d_W_numberAt_49 (by decide) ?_
      exact ih ((x3 <<< (8 &&& 31)) ||| ((u.2 0 x4.toNatClampNeg) &&& 255)) (x4 + 1) _ _ _ hk I (lv_sub hl [2, 3, 4, 1, 0] rfl)
set_option maxHeartbeats 4000000 in
set_option maxRecDepth 100000 in
theorem c_W_numberAt {Z : zT} {D : va_G} {cs : Nat → ClassId} {a : Nat → Nat} (hw : wD (xW a cs)) (hz : zOK Z) (l : Launch) {u : St} {x1 : Int32} {x2 : Int32} {r : Int32} {u' : St} (hk : f_W_numberAt u x1 x2 = some (r, u')) : KI clA D cs (xW a cs) Z l y_W_numberAt (.code y_W_numberAt prog_6_method_7_code 5 (Option.some Jvm.ClassFile.FieldType.int)) rm_W_numberAt [.ref (a 4), .int x1, .int x2] u r u' := by
  unfold f_W_numberAt at hk
  refine KI.of (by decide) (Nat.le_of_ble_eq_true rfl) rfl hw hz ?_
  intro p e s m args below meth c Q C I hQ ls hl
  have hl : lv_has ls 5 [(0, .ref (a 4)), (1, .int x1), (2, .int x2)] := hl
  have hx := C.1.1
  have hb := C.1.2.1
  refine lv_iload_n hx hb d_W_numberAt_0 rfl (lv_at hl 1 rfl) ?_
  refine lv_if_lt (tgt := 14) hx hb d_W_numberAt_1 (by decide) (fun hc => ?_) (fun hc => ?_)
  · replace hk := it_u hc hk
    refine lv_iconst (v := 0) hx hb d_W_numberAt_14 (by decide) ?_
    exact hQ _ _ _ _ _ _ I hk d_W_numberAt_15
  · replace hk := ie_u hc hk
    refine lv_iload_n hx hb d_W_numberAt_4 rfl (lv_at hl 1 rfl) ?_
    refine lv_aload_n hx hb d_W_numberAt_5 rfl (lv_at hl 0 rfl) ?_
    refine g_W_length C I k_32 d_W_numberAt_6 ?_
    refine lv_iload_n hx hb d_W_numberAt_9 rfl (lv_at hl 2 rfl) ?_
    refine lv_isub hx hb d_W_numberAt_10 ?_
    refine lv_icmp_le (tgt := 16) hx hb d_W_numberAt_11 (by decide) (fun hc => ?_) (fun hc => ?_)
    · replace hk := it_u hc hk
      refine lv_iconst (v := 0) hx hb d_W_numberAt_16 (by decide) ?_
      refine lv_istore_n (lv' := [(3, .int 0), (0, .ref (a 4)), (1, .int x1), (2, .int x2)]) hx hb d_W_numberAt_17 rfl hl (by decide) rfl (fun ls hl => ?_)
      refine lv_iload_n hx hb d_W_numberAt_18 rfl (lv_at hl 2 rfl) ?_
      refine lv_istore (lv' := [(4, .int x1), (3, .int 0), (0, .ref (a 4)), (1, .int x1), (2, .int x2)]) hx hb d_W_numberAt_19 hl (by decide) rfl (fun ls hl => ?_)
      obtain ⟨z1, hj2, hk⟩ := cT_u hk
      refine w_W_numberAt_L21 C (fun H locs ls I hl => ?_) FU 0 x1 _ _ _ hj2 I (lv_sub hl [2, 3, 4, 1, 0] rfl)
      refine lv_iload_n hx hb d_W_numberAt_52 rfl (lv_at hl 0 rfl) ?_
      exact hQ _ _ _ _ _ _ I hk d_W_numberAt_53
    · replace hk := ie_u hc hk
      refine lv_iconst (v := 0) hx hb d_W_numberAt_14 (by decide) ?_
      exact hQ _ _ _ _ _ _ I hk d_W_numberAt_15
def rm_W_next : Room := { frames := 1, cells := 0, slots := 0, locals := 24 }
noncomputable def f_W_next (u : St) (x1 : Int32) : Option (Int32 × St) := if (u.1 2) = 0 then (if (u.1 1) ≤ ((u.1 0) - x1) then (cI (f_W_numberAt u (u.1 1) x1) fun r3 u1 => bnd (sv u1 1 ((u1.1 1) + x1)) fun u4 => some (r3, u4)) else (bnd (sv u 2 1) fun u5 => bnd (sv u5 3 (u5.1 0)) fun u6 => some (0, u6))) else (some (0, u))
set_option maxHeartbeats 4000000 in
set_option maxRecDepth 100000 in
theorem c_W_next {Z : zT} {D : va_G} {cs : Nat → ClassId} {a : Nat → Nat} (hw : wD (xW a cs)) (hz : zOK Z) (l : Launch) {u : St} {x1 : Int32} {r : Int32} {u' : St} (hk : f_W_next u x1 = some (r, u')) : KI clA D cs (xW a cs) Z l y_W_next (.code y_W_next prog_6_method_8_code 3 (Option.some Jvm.ClassFile.FieldType.int)) rm_W_next [.ref (a 4), .int x1] u r u' := by
  unfold f_W_next at hk
  refine KI.of (by decide) (Nat.le_of_ble_eq_true rfl) rfl hw hz ?_
  intro p e s m args below meth c Q C I hQ ls hl
  have hl : lv_has ls 3 [(0, .ref (a 4)), (1, .int x1)] := hl
  have hx := C.1.1
  have hb := C.1.2.1
  refine lv_aload_n hx hb d_W_next_0 rfl (lv_at hl 0 rfl) ?_
  refine g_W_broken C I k_41 d_W_next_1 ?_
  refine lv_if_eq (tgt := 9) hx hb d_W_next_4 (by decide) (fun hc => ?_) (fun hc => ?_)
  · replace hk := it_u hc hk
    refine lv_aload_n hx hb d_W_next_9 rfl (lv_at hl 0 rfl) ?_
    refine g_W_at C I k_40 d_W_next_10 ?_
    refine lv_aload_n hx hb d_W_next_13 rfl (lv_at hl 0 rfl) ?_
    refine g_W_length C I k_32 d_W_next_14 ?_
    refine lv_iload_n hx hb d_W_next_17 rfl (lv_at hl 1 rfl) ?_
    refine lv_isub hx hb d_W_next_18 ?_
    refine lv_icmp_le (tgt := 37) hx hb d_W_next_19 (by decide) (fun hc => ?_) (fun hc => ?_)
    · replace hk := it_u hc hk
      refine lv_aload_n hx hb d_W_next_37 rfl (lv_at hl 0 rfl) ?_
      refine lv_aload_n hx hb d_W_next_38 rfl (lv_at hl 0 rfl) ?_
      refine g_W_at C I k_40 d_W_next_39 ?_
      refine lv_iload_n hx hb d_W_next_42 rfl (lv_at hl 1 rfl) ?_
      obtain ⟨r3, u1, h2, hk⟩ := cI_u hk
      refine go_I I (call_runV (rest := []) C I (c_W_numberAt C.2.2.2.1 C.2.2.2.2.1 l h2 _) wd_W_numberAt (q0 := 4) (ci := 4) rfl rfl k_287 ⟨rfl, rfl⟩ ⟨by decide, by decide⟩ rfl hl.1 rfl (Nat.le_of_ble_eq_true rfl) d_W_next_43) (fun H locs I => ?_)
      refine lv_istore_n (lv' := [(2, .int r3), (0, .ref (a 4)), (1, .int x1)]) hx hb d_W_next_46 rfl hl (by decide) rfl (fun ls hl => ?_)
      refine lv_aload_n hx hb d_W_next_47 rfl (lv_at hl 1 rfl) ?_
      refine lv_dup hx hb d_W_next_48 rfl ?_
      refine g_W_at C I k_40 d_W_next_49 ?_
      refine lv_iload_n hx hb d_W_next_52 rfl (lv_at hl 2 rfl) ?_
      refine lv_iadd hx hb d_W_next_53 ?_
      refine p_W_at C I k_40 d_W_next_54 (fun H locs I => ?_)
      obtain ⟨u4, hu, hk⟩ := bnd_u hk
      rw [hu] at I
      clear hu
      refine lv_iload_n hx hb d_W_next_57 rfl (lv_at hl 0 rfl) ?_
      exact hQ _ _ _ _ _ _ I hk d_W_next_58
    · replace hk := ie_u hc hk
      refine lv_aload_n hx hb d_W_next_22 rfl (lv_at hl 0 rfl) ?_
      refine lv_iconst (v := 1) hx hb d_W_next_23 (by decide) ?_
      refine p_W_broken C I k_41 d_W_next_24 (fun H locs I => ?_)
      obtain ⟨u5, hu, hk⟩ := bnd_u hk
      rw [hu] at I
      clear hu
      refine lv_aload_n hx hb d_W_next_27 rfl (lv_at hl 0 rfl) ?_
      refine lv_aload_n hx hb d_W_next_28 rfl (lv_at hl 0 rfl) ?_
      refine g_W_length C I k_32 d_W_next_29 ?_
      refine p_W_place C I k_43 d_W_next_32 (fun H locs I => ?_)
      obtain ⟨u6, hu, hk⟩ := bnd_u hk
      rw [hu] at I
      clear hu
      refine lv_iconst (v := 0) hx hb d_W_next_35 (by decide) ?_
      exact hQ _ _ _ _ _ _ I hk d_W_next_36
  · replace hk := ie_u hc hk
    refine lv_iconst (v := 0) hx hb d_W_next_7 (by decide) ?_
    exact hQ _ _ _ _ _ _ I hk d_W_next_8
def rm_W_sound : Room := { frames := 0, cells := 0, slots := 0, locals := 0 }
noncomputable def f_W_sound (u : St) : Option (Int32 × St) := bnd (if (u.1 2) = 0 then (1) else (0)) fun (z1 : Int32) => gb z1 (some (z1, u))
set_option maxHeartbeats 4000000 in
set_option maxRecDepth 100000 in
theorem c_W_sound {Z : zT} {D : va_G} {cs : Nat → ClassId} {a : Nat → Nat} (hw : wD (xW a cs)) (hz : zOK Z) (l : Launch) {u : St} {r : Int32} {u' : St} (hk : f_W_sound u = some (r, u')) : KI clA D cs (xW a cs) Z l y_W_sound (.code y_W_sound prog_6_method_5_code 1 (Option.some Jvm.ClassFile.FieldType.boolean)) rm_W_sound [.ref (a 4)] u r u' := by
  unfold f_W_sound at hk
  refine KZ.of (by decide) (Nat.le_of_ble_eq_true rfl) hw hz ?_
  intro p e s m args below meth c Q C I hQ ls hl
  have hl : lv_has ls 1 [(0, .ref (a 4))] := hl
  have hx := C.1.1
  have hb := C.1.2.1
  refine lv_aload_n hx hb d_W_sound_0 rfl (lv_at hl 0 rfl) ?_
  refine g_W_broken C I k_41 d_W_sound_1 ?_
  obtain ⟨z1, hj2, hk⟩ := bnd_u hk
  have Khj2 : ∀ (H : Heap) (locs : List Loc) (ls : Array Slot), Dy clA D (xW a cs) s H locs u → lv_has ls 1 [] → W p l e rm_W_sound s m args below meth c H locs 0 0 Q (F0 m 12 ls [.int z1]) := by
    intro H locs ls I hl
    exact hQ _ _ _ _ _ _ I hk d_W_sound_12
  refine lv_if_ne (tgt := 11) hx hb d_W_sound_4 (by decide) (fun hc => ?_) (fun hc => ?_)
  · replace hj2 := ie_u hc hj2
    refine lv_iconst (v := 0) hx hb d_W_sound_11 (by decide) ?_
    cases hj2
    exact Khj2 _ _ _ I (lv_sub hl [] rfl)
  · replace hj2 := it_u hc hj2
    refine lv_iconst (v := 1) hx hb d_W_sound_7 (by decide) ?_
    refine lv_goto (tgt := 12) hx hb d_W_sound_8 (by decide) ?_
    cases hj2
    exact Khj2 _ _ _ I (lv_sub hl [] rfl)
def rm_W_begin : Room := { frames := 0, cells := 0, slots := 0, locals := 0 }
noncomputable def f_W_begin (u : St) : Option (St) := bnd (sv u 1 0) fun u1 => bnd (sv u1 2 0) fun u2 => bnd (sv u2 3 0) fun u3 => some u3
set_option maxHeartbeats 4000000 in
set_option maxRecDepth 100000 in
theorem c_W_begin {Z : zT} {D : va_G} {cs : Nat → ClassId} {a : Nat → Nat} (hw : wD (xW a cs)) (hz : zOK Z) (l : Launch) {u : St} {u' : St} (hk : f_W_begin u = some u') : KV clA D cs (xW a cs) Z l y_W_begin (.code y_W_begin prog_6_method_4_code 1 (Option.none : Option Jvm.ClassFile.FieldType)) rm_W_begin [.ref (a 4)] u u' := by
  unfold f_W_begin at hk
  refine KV.of (by decide) (Nat.le_of_ble_eq_true rfl) hw hz ?_
  intro p e s m args below meth c Q C I hQ ls hl
  have hl : lv_has ls 1 [(0, .ref (a 4))] := hl
  have hx := C.1.1
  have hb := C.1.2.1
  refine lv_aload_n hx hb d_W_begin_0 rfl (lv_at hl 0 rfl) ?_
  refine lv_iconst (v := 0) hx hb d_W_begin_1 (by decide) ?_
  refine p_W_at C I k_40 d_W_begin_2 (fun H locs I => ?_)
  obtain ⟨u1, hu, hk⟩ := bnd_u hk
  rw [hu] at I
  clear hu
  refine lv_aload_n hx hb d_W_begin_5 rfl (lv_at hl 0 rfl) ?_
  refine lv_iconst (v := 0) hx hb d_W_begin_6 (by decide) ?_
  refine p_W_broken C I k_41 d_W_begin_7 (fun H locs I => ?_)
  obtain ⟨u2, hu, hk⟩ := bnd_u hk
  rw [hu] at I
  clear hu
  refine lv_aload_n hx hb d_W_begin_10 rfl (lv_at hl 0 rfl) ?_
  refine lv_iconst (v := 0) hx hb d_W_begin_11 (by decide) ?_
  refine p_W_place C I k_43 d_W_begin_12 (fun H locs I => ?_)
  obtain ⟨u3, hu, hk⟩ := bnd_u hk
  rw [hu] at I
  clear hu
  exact hQ _ _ _ _ _ I hk d_W_begin_15
def rm_W_append : Room := { frames := 0, cells := 0, slots := 0, locals := 0 }
noncomputable def f_W_append (u : St) (x1 : Int32) : Option (St) := cT (if 4000 ≤ (u.1 0) then (some (u)) else (gd (u.1 0) 4000 (bnd (sa u 0 (u.1 0).toNatClampNeg (vp_nar .byte (x1).toInt8.toInt32)) fun u3 => bnd (sv u3 0 ((u3.1 0) + 1)) fun u4 => some (u4)))) fun (u1 : St) => some u1
set_option maxHeartbeats 4000000 in
set_option maxRecDepth 100000 in
theorem c_W_append {Z : zT} {D : va_G} {cs : Nat → ClassId} {a : Nat → Nat} (hw : wD (xW a cs)) (hz : zOK Z) (l : Launch) {u : St} {x1 : Int32} {u' : St} (hk : f_W_append u x1 = some u') : KV clA D cs (xW a cs) Z l y_W_append (.code y_W_append prog_6_method_2_code 2 (Option.none : Option Jvm.ClassFile.FieldType)) rm_W_append [.ref (a 4), .int x1] u u' := by
  unfold f_W_append at hk
  refine KV.of (by decide) (Nat.le_of_ble_eq_true rfl) hw hz ?_
  intro p e s m args below meth c Q C I hQ ls hl
  have hl : lv_has ls 2 [(0, .ref (a 4)), (1, .int x1)] := hl
  have hx := C.1.1
  have hb := C.1.2.1
  refine lv_aload_n hx hb d_W_append_0 rfl (lv_at hl 0 rfl) ?_
  refine g_W_length C I k_32 d_W_append_1 ?_
  refine lv_sipush (v := 4000) hx hb d_W_append_4 (by decide) ?_
  obtain ⟨u1, hj2, hk⟩ := cT_u hk
  have Khj2 : ∀ (H : Heap) (locs : List Loc) (ls : Array Slot), Dy clA D (xW a cs) s H locs u1 → lv_has ls 2 [] → W p l e rm_W_append s m args below meth c H locs 0 0 Q (F0 m 31 ls []) := by
    intro H locs ls I hl
    exact hQ _ _ _ _ _ I hk d_W_append_31
  refine lv_icmp_ge (tgt := 31) hx hb d_W_append_7 (by decide) (fun hc => ?_) (fun hc => ?_)
  · replace hj2 := it_u hc hj2
    cases hj2
    exact Khj2 _ _ _ I (lv_sub hl [] rfl)
  · replace hj2 := ie_u hc hj2
    refine lv_aload_n hx hb d_W_append_10 rfl (lv_at hl 0 rfl) ?_
    refine g_W_row C I k_30 d_W_append_11 ?_
    refine lv_aload_n hx hb d_W_append_14 rfl (lv_at hl 0 rfl) ?_
    refine g_W_length C I k_32 d_W_append_15 ?_
    refine lv_iload_n hx hb d_W_append_18 rfl (lv_at hl 1 rfl) ?_
    refine lv_i2b (v := (x1).toInt8.toInt32) hx hb d_W_append_19 rfl ?_
    obtain ⟨hi, hj2⟩ := gd_u hj2
    refine s_W_row C I hi d_W_append_20 (fun H locs I => ?_)
    obtain ⟨u3, hu, hj2⟩ := bnd_u hj2
    rw [hu] at I
    clear hu
    refine lv_aload_n hx hb d_W_append_21 rfl (lv_at hl 0 rfl) ?_
    refine lv_dup hx hb d_W_append_22 rfl ?_
    refine g_W_length C I k_32 d_W_append_23 ?_
    refine lv_iconst (v := 1) hx hb d_W_append_26 (by decide) ?_
    refine lv_iadd hx hb d_W_append_27 ?_
    refine p_W_length C I k_32 d_W_append_28 (fun H locs I => ?_)
    obtain ⟨u4, hu, hj2⟩ := bnd_u hj2
    rw [hu] at I
    clear hu
    cases hj2
    exact Khj2 _ _ _ I (lv_sub hl [] rfl)
def rm_W_flip : Room := { frames := 0, cells := 0, slots := 0, locals := 0 }
noncomputable def f_W_flip (u : St) (x1 : Int32) (x2 : Int32) : Option (St) := cT (if x1 < 0 then (some (u)) else (if (u.1 0) ≤ x1 then (some (u)) else (gd x1 4000 (gd x1 4000 (bnd (sa u 0 x1.toNatClampNeg (vp_nar .byte ((u.2 0 x1.toNatClampNeg) ^^^ x2).toInt8.toInt32)) fun u3 => some (u3)))))) fun (u1 : St) => some u1
set_option maxHeartbeats 4000000 in
set_option maxRecDepth 100000 in
theorem c_W_flip {Z : zT} {D : va_G} {cs : Nat → ClassId} {a : Nat → Nat} (hw : wD (xW a cs)) (hz : zOK Z) (l : Launch) {u : St} {x1 : Int32} {x2 : Int32} {u' : St} (hk : f_W_flip u x1 x2 = some u') : KV clA D cs (xW a cs) Z l y_W_flip (.code y_W_flip prog_6_method_3_code 3 (Option.none : Option Jvm.ClassFile.FieldType)) rm_W_flip [.ref (a 4), .int x1, .int x2] u u' := by
  unfold f_W_flip at hk
  refine KV.of (by decide) (Nat.le_of_ble_eq_true rfl) hw hz ?_
  intro p e s m args below meth c Q C I hQ ls hl
  have hl : lv_has ls 3 [(0, .ref (a 4)), (1, .int x1), (2, .int x2)] := hl
  have hx := C.1.1
  have hb := C.1.2.1
  refine lv_iload_n hx hb d_W_flip_0 rfl (lv_at hl 1 rfl) ?_
  obtain ⟨u1, hj2, hk⟩ := cT_u hk
  have Khj2 : ∀ (H : Heap) (locs : List Loc) (ls : Array Slot), Dy clA D (xW a cs) s H locs u1 → lv_has ls 3 [] → W p l e rm_W_flip s m args below meth c H locs 0 0 Q (F0 m 27 ls []) := by
    intro H locs ls I hl
    exact hQ _ _ _ _ _ I hk d_W_flip_27
  refine lv_if_lt (tgt := 27) hx hb d_W_flip_1 (by decide) (fun hc => ?_) (fun hc => ?_)
  · replace hj2 := it_u hc hj2
    cases hj2
    exact Khj2 _ _ _ I (lv_sub hl [] rfl)
  · replace hj2 := ie_u hc hj2
    refine lv_iload_n hx hb d_W_flip_4 rfl (lv_at hl 1 rfl) ?_
    refine lv_aload_n hx hb d_W_flip_5 rfl (lv_at hl 0 rfl) ?_
    refine g_W_length C I k_32 d_W_flip_6 ?_
    refine lv_icmp_ge (tgt := 27) hx hb d_W_flip_9 (by decide) (fun hc => ?_) (fun hc => ?_)
    · replace hj2 := it_u hc hj2
      cases hj2
      exact Khj2 _ _ _ I (lv_sub hl [] rfl)
    · replace hj2 := ie_u hc hj2
      refine lv_aload_n hx hb d_W_flip_12 rfl (lv_at hl 0 rfl) ?_
      refine g_W_row C I k_30 d_W_flip_13 ?_
      refine lv_iload_n hx hb d_W_flip_16 rfl (lv_at hl 1 rfl) ?_
      refine lv_aload_n hx hb d_W_flip_17 rfl (lv_at hl 0 rfl) ?_
      refine g_W_row C I k_30 d_W_flip_18 ?_
      refine lv_iload_n hx hb d_W_flip_21 rfl (lv_at hl 1 rfl) ?_
      obtain ⟨hi, hj2⟩ := gd_u hj2
      refine l_W_row C I hi d_W_flip_22 ?_
      refine lv_iload_n hx hb d_W_flip_23 rfl (lv_at hl 2 rfl) ?_
      refine lv_ixor hx hb d_W_flip_24 ?_
      refine lv_i2b (v := ((u.2 0 x1.toNatClampNeg) ^^^ x2).toInt8.toInt32) hx hb d_W_flip_25 rfl ?_
      obtain ⟨hi, hj2⟩ := gd_u hj2
      refine s_W_row C I hi d_W_flip_26 (fun H locs I => ?_)
      obtain ⟨u3, hu, hj2⟩ := bnd_u hj2
      rw [hu] at I
      clear hu
      cases hj2
      exact Khj2 _ _ _ I (lv_sub hl [] rfl)
