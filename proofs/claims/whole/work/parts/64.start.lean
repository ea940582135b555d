/-! what the start gives -/
theorem vks {args : Array Value} {s : State} {own tx : String} {k : Nat} (hs : (Cond.stringRef own k tx).before args s = true) (hx : (Cond.exactly (.string own k) "java/lang/String").before args s = true) : ∃ sa, vk_R own k tx sa s := by
  obtain ⟨a, c, cA, kA, q1, -⟩ := Cond.exactly_spec (args := args) (first := s) (o := none) (s := s) (idx := []) (t := .string own k) (cls := "java/lang/String") hx
  exact ⟨a, vk_R.of hs q1⟩
section STARTS
variable {args : Array Value} {s : State}
theorem st_KX (hts : ∀ w ∈ lw_tbl, w.before args s = true) (hgv : (Jvm.Cond.and given_1 narrow_1).before args s = true) : KX s :=
  ⟨(va_tabs rfl rfl (hts (.methodLinkNest RX0 3 yX4_init "FormulaHouse") (by decide +kernel))), (va_tabs rfl rfl (hts (.methodLinkNest RX2 3 yX4_init "FormulaHouse") (by decide +kernel))), va_AO.of (hts (.arrayOver (.object RX1)) (by decide +kernel)), va_AO.of (hts (.arrayOver (.object RX4)) (by decide +kernel)), (va_tabs rfl rfl (hts (.declares ⟨RX4, "whichKind", "()I"⟩) (by decide +kernel))), (va_tabs rfl rfl (hts (.declares ⟨RX4, "isTooGreat", "()Z"⟩) (by decide +kernel))), (va_tabs rfl rfl (hts (.declares ⟨RX4, "isSameAs", "(LFormulaHouse$Thing;)Z"⟩) (by decide +kernel))), (va_tabs rfl rfl (hts (.castable RX0 RX0) (by decide +kernel))), (va_tabs rfl rfl (hts (.castable RX2 RX2) (by decide +kernel))), (va_tabs rfl rfl (hts (.castable RX0 RX4) (by decide +kernel))), (va_tabs rfl rfl (hts (.castable RX2 RX4) (by decide +kernel))), va_Nc.of (flat_of_before _ hgv (.not (.castable RX0 RX2)) (by decide +kernel)), va_Nc.of (flat_of_before _ hgv (.not (.castable RX2 RX0)) (by decide +kernel))⟩

theorem st_s0 (hts : ∀ w ∈ lw_tbl, w.before args s = true) (hgv : (Jvm.Cond.and given_1 narrow_1).before args s = true) : ∃ sa, vk_R "FormulaHouse" 31 "a number through 0" sa s := vks (hts _ (by decide +kernel)) (flat_of_before _ hgv _ (by decide +kernel))
theorem st_s1 (hts : ∀ w ∈ lw_tbl, w.before args s = true) (hgv : (Jvm.Cond.and given_1 narrow_1).before args s = true) : ∃ sa, vk_R "FormulaHouse" 198 "no room for one more" sa s := vks (hts _ (by decide +kernel)) (flat_of_before _ hgv _ (by decide +kernel))
theorem st_s2 (hts : ∀ w ∈ lw_tbl, w.before args s = true) (hgv : (Jvm.Cond.and given_1 narrow_1).before args s = true) : ∃ sa, vk_R "FormulaHouse" 203 "too great a part" sa s := vks (hts _ (by decide +kernel)) (flat_of_before _ hgv _ (by decide +kernel))
theorem st_s3 (hts : ∀ w ∈ lw_tbl, w.before args s = true) (hgv : (Jvm.Cond.and given_1 narrow_1).before args s = true) : ∃ sa, vk_R "FormulaHouse" 185 "no such thing" sa s := vks (hts _ (by decide +kernel)) (flat_of_before _ hgv _ (by decide +kernel))
theorem st_s4 (hts : ∀ w ∈ lw_tbl, w.before args s = true) (hgv : (Jvm.Cond.and given_1 narrow_1).before args s = true) : ∃ sa, vk_R "FormulaHouse" 187 "not a number or polynomial" sa s := vks (hts _ (by decide +kernel)) (flat_of_before _ hgv _ (by decide +kernel))
theorem st_s5 (hts : ∀ w ∈ lw_tbl, w.before args s = true) (hgv : (Jvm.Cond.and given_1 narrow_1).before args s = true) : ∃ sa, vk_R "FormulaHouse" 195 "too great a degree" sa s := vks (hts _ (by decide +kernel)) (flat_of_before _ hgv _ (by decide +kernel))
theorem st_s6 (hts : ∀ w ∈ lw_tbl, w.before args s = true) (hgv : (Jvm.Cond.and given_1 narrow_1).before args s = true) : ∃ sa, vk_R "FormulaHouse" 189 "not a number" sa s := vks (hts _ (by decide +kernel)) (flat_of_before _ hgv _ (by decide +kernel))
theorem st_s7 (hts : ∀ w ∈ lw_tbl, w.before args s = true) (hgv : (Jvm.Cond.and given_1 narrow_1).before args s = true) : ∃ sa, vk_R "FormulaHouse" 94 "divided by 0" sa s := vks (hts _ (by decide +kernel)) (flat_of_before _ hgv _ (by decide +kernel))
theorem st_s8 (hts : ∀ w ∈ lw_tbl, w.before args s = true) (hgv : (Jvm.Cond.and given_1 narrow_1).before args s = true) : ∃ sa, vk_R "FormulaHouse" 107 "no such op" sa s := vks (hts _ (by decide +kernel)) (flat_of_before _ hgv _ (by decide +kernel))
theorem st_s9 (hts : ∀ w ∈ lw_tbl, w.before args s = true) (hgv : (Jvm.Cond.and given_1 narrow_1).before args s = true) : ∃ sa, vk_R "FormulaHouse$Signs" 27 "a degree that can't be told" sa s := vks (hts _ (by decide +kernel)) (flat_of_before _ hgv _ (by decide +kernel))
theorem st_s10 (hts : ∀ w ∈ lw_tbl, w.before args s = true) (hgv : (Jvm.Cond.and given_1 narrow_1).before args s = true) : ∃ sa, vk_R "FormulaHouse$Signs" 75 "an answer that is no fraction" sa s := vks (hts _ (by decide +kernel)) (flat_of_before _ hgv _ (by decide +kernel))
theorem st_s11 (hts : ∀ w ∈ lw_tbl, w.before args s = true) (hgv : (Jvm.Cond.and given_1 narrow_1).before args s = true) : ∃ sa, vk_R "FormulaHouse" 191 "not a set" sa s := vks (hts _ (by decide +kernel)) (flat_of_before _ hgv _ (by decide +kernel))
theorem st_s12 (hts : ∀ w ∈ lw_tbl, w.before args s = true) (hgv : (Jvm.Cond.and given_1 narrow_1).before args s = true) : ∃ sa, vk_R "FormulaHouse" 139 "no such part" sa s := vks (hts _ (by decide +kernel)) (flat_of_before _ hgv _ (by decide +kernel))
theorem st_s13 (hts : ∀ w ∈ lw_tbl, w.before args s = true) (hgv : (Jvm.Cond.and given_1 narrow_1).before args s = true) : ∃ sa, vk_R "FormulaHouse" 154 "no such piece" sa s := vks (hts _ (by decide +kernel)) (flat_of_before _ hgv _ (by decide +kernel))
theorem st_s14 (hts : ∀ w ∈ lw_tbl, w.before args s = true) (hgv : (Jvm.Cond.and given_1 narrow_1).before args s = true) : ∃ sa, vk_R "FormulaHouse" 157 "no such side or part" sa s := vks (hts _ (by decide +kernel)) (flat_of_before _ hgv _ (by decide +kernel))
theorem st_s15 (hts : ∀ w ∈ lw_tbl, w.before args s = true) (hgv : (Jvm.Cond.and given_1 narrow_1).before args s = true) : ∃ sa, vk_R "FormulaHouse" 178 "nothing would be assumed" sa s := vks (hts _ (by decide +kernel)) (flat_of_before _ hgv _ (by decide +kernel))
theorem st_KV (hts : ∀ w ∈ lw_tbl, w.before args s = true) (hgv : (Jvm.Cond.and given_1 narrow_1).before args s = true) : KV s :=
  ⟨(List.forall_mem_cons.mpr ⟨st_s0 hts hgv, (List.forall_mem_cons.mpr ⟨st_s1 hts hgv, (List.forall_mem_cons.mpr ⟨st_s2 hts hgv, (List.forall_mem_cons.mpr ⟨st_s3 hts hgv, (List.forall_mem_cons.mpr ⟨st_s4 hts hgv, (List.forall_mem_cons.mpr ⟨st_s5 hts hgv, (List.forall_mem_cons.mpr ⟨st_s6 hts hgv, (List.forall_mem_cons.mpr ⟨st_s7 hts hgv, (List.forall_mem_cons.mpr ⟨st_s8 hts hgv, (List.forall_mem_cons.mpr ⟨st_s9 hts hgv, (List.forall_mem_cons.mpr ⟨st_s10 hts hgv, (List.forall_mem_cons.mpr ⟨st_s11 hts hgv, (List.forall_mem_cons.mpr ⟨st_s12 hts hgv, (List.forall_mem_cons.mpr ⟨st_s13 hts hgv, (List.forall_mem_cons.mpr ⟨st_s14 hts hgv, (List.forall_mem_cons.mpr ⟨st_s15 hts hgv, (fun _ h => nomatch h)⟩)⟩)⟩)⟩)⟩)⟩)⟩)⟩)⟩)⟩)⟩)⟩)⟩)⟩)⟩)⟩), (List.forall_mem_cons.mpr ⟨(va_tabs rfl rfl (hts (.castable eIO eIO) (by decide +kernel))), (List.forall_mem_cons.mpr ⟨(va_tabs rfl rfl (hts (.castable eIA eIA) (by decide +kernel))), (List.forall_mem_cons.mpr ⟨(va_tabs rfl rfl (hts (.castable eIS eIS) (by decide +kernel))), (List.forall_mem_cons.mpr ⟨(va_tabs rfl rfl (hts (.castable eAR eAR) (by decide +kernel))), (fun _ h => nomatch h)⟩)⟩)⟩)⟩), (List.forall_mem_cons.mpr ⟨va_Nc.of (flat_of_before _ hgv (.not (.castable eIA eIO)) (by decide +kernel)), (List.forall_mem_cons.mpr ⟨va_Nc.of (flat_of_before _ hgv (.not (.castable eIS eIO)) (by decide +kernel)), (List.forall_mem_cons.mpr ⟨va_Nc.of (flat_of_before _ hgv (.not (.castable eIS eIA)) (by decide +kernel)), (List.forall_mem_cons.mpr ⟨va_Nc.of (flat_of_before _ hgv (.not (.castable eIS eAR)) (by decide +kernel)), (List.forall_mem_cons.mpr ⟨va_Nc.of (flat_of_before _ hgv (.not (.castable eAR eIO)) (by decide +kernel)), (List.forall_mem_cons.mpr ⟨va_Nc.of (flat_of_before _ hgv (.not (.castable eAR eIA)) (by decide +kernel)), (fun _ h => nomatch h)⟩)⟩)⟩)⟩)⟩)⟩), (List.forall_mem_cons.mpr ⟨(va_tabs rfl rfl (hts (.declares (Bundle.initS "java/lang/RuntimeException")) (by decide +kernel))), (List.forall_mem_cons.mpr ⟨(va_tabs rfl rfl (hts (.declares (Bundle.initS "java/lang/Exception")) (by decide +kernel))), (List.forall_mem_cons.mpr ⟨(va_tabs rfl rfl (hts (.declares (Bundle.initS "java/lang/Throwable")) (by decide +kernel))), (fun _ h => nomatch h)⟩)⟩)⟩)⟩
theorem st_KT (hts : ∀ w ∈ lw_tbl, w.before args s = true) (hgv : (Jvm.Cond.and given_1 narrow_1).before args s = true) : KT s :=
  ⟨st_KV hts hgv, vx_Zqof (hts (.laysStatic Bundle.tN "UNASSIGNED_STACK" Bundle.steD) (by decide +kernel)) (hts (.initialized Bundle.tN) (by decide +kernel)) (flat_of_before _ hgv (.isRef (.static Bundle.tN "UNASSIGNED_STACK" Bundle.steD)) (by decide +kernel)) (fun _ _ h => h), vx_Zqof (hts (.laysStatic Bundle.tN "SUPPRESSED_SENTINEL" Bundle.listD) (by decide +kernel)) (hts (.initialized Bundle.tN) (by decide +kernel)) (flat_of_before _ hgv (.isRef (.static Bundle.tN "SUPPRESSED_SENTINEL" Bundle.listD)) (by decide +kernel)) (fun _ _ h => h)⟩
theorem st_arr {ty : FieldType} (h : (Cond.arrayClass ty).before args s = true) : ∃ cA, ArrOfT s cA ty ∧ s.vm.findClass ("[" ++ ty.toString) = some cA := by
  obtain ⟨cA, k, comp, h1, h2, h3⟩ := Cond.arrayClass_spec h
  exact ⟨cA, fun n z => ⟨fun k h => (by cases h), k, h2, comp, h3⟩, h1⟩
theorem st_aro {C : String} (h : (Cond.arrayOver (.object C)).before args s = true) : ∃ cA, ArrOfT s cA (.object C) ∧ va_RA s cA (.object C) := by
  obtain ⟨comp, cA, k, h1, h2, h3, h4, h5⟩ := Cond.arrayOver_spec h
  exact ⟨cA, fun n z => ⟨fun k h => (by cases h), k, h3, comp, h4⟩, k, comp, h3, h4, h1, h5⟩
theorem st_KK (hts : ∀ w ∈ lw_tbl, w.before args s = true) (hgv : (Jvm.Cond.and given_1 narrow_1).before args s = true) : ∃ G : Gm, KK G s := by
  have hw : ∀ w ∈ WS, w.before args s = true := fun w h => hts w (List.mem_filter.mp h).1
  obtain ⟨c0, i0, k0⟩ := u_known hw ciX0.2.1 (hw _ ciX0.2.2.2.2.1)
  obtain ⟨c1, i1, k1⟩ := u_known hw ciX1.2.1 (hw _ ciX1.2.2.2.2.1)
  obtain ⟨c2, i2, k2⟩ := u_known hw ciX2.2.1 (hw _ ciX2.2.2.2.2.1)
  obtain ⟨c3, i3, k3⟩ := u_known hw ciX3.2.1 (hw _ ciX3.2.2.2.2.1)
  obtain ⟨c4, i4, k4⟩ := u_known hw ciX5.2.1 (hw _ ciX5.2.2.2.2.1)
  obtain ⟨c5, i5, k5⟩ := u_known hw ciX6.2.1 (hw _ ciX6.2.2.2.2.1)
  obtain ⟨a0, p0, q0⟩ := st_arr (hw _ wa_I)
  obtain ⟨a1, p1, q1⟩ := st_arr (hw _ wa_J)
  obtain ⟨a2, p2, q2⟩ := st_arr (hw _ wa_Z)
  obtain ⟨a3, p3, q3⟩ := st_aro (hts (.arrayOver (.object RX1)) (by decide +kernel))
  obtain ⟨a4, p4, q4⟩ := st_aro (hts (.arrayOver (.object RX4)) (by decide +kernel))
  refine ⟨((fun k => match k with | 0 => c0 | 1 => c1 | 2 => c2 | 3 => c3 | 4 => c4 | _ => c5, fun k => match k with | 0 => i0 | 1 => i1 | 2 => i2 | 3 => i3 | 4 => i4 | _ => i5), fun k => match k with | 0 => a0 | 1 => a1 | 2 => a2 | 3 => a3 | _ => a4), ⟨?_, ?_⟩, st_KX hts hgv⟩
  · intro k q hq
    match k, hq with
    | 0, hq => cases hq; exact k0
    | 1, hq => cases hq; exact k1
    | 2, hq => cases hq; exact k2
    | 3, hq => cases hq; exact k3
    | 4, hq => cases hq; exact k4
    | 5, hq => cases hq; exact k5
    | k + 6, hq => simp [vwCl] at hq
  · intro k q hq
    match k, hq with
    | 0, hq => cases hq; exact ⟨p0, q0⟩
    | 1, hq => cases hq; exact ⟨p1, q1⟩
    | 2, hq => cases hq; exact ⟨p2, q2⟩
    | 3, hq => cases hq; exact ⟨p3, q3⟩
    | 4, hq => cases hq; exact ⟨p4, q4⟩
    | k + 5, hq => simp [tyl] at hq
end STARTS

