theorem wzS2 {y y' : MethodName} {c c' : ByteArray} {n n' : Nat} {ret ret' : Option FieldType} {own : String} {ix : Nat} (h : Cond.code y' c' n' ret' ∈ wsL_law) (h1 : Cond.methodLink own ix y' ∈ wsL_law) (h2 : Cond.static y' ∈ wsL_law) (h4 : Cond.initialized y'.cls ∈ wsL_law) : GoodIn (wz y c n ret) (va_wsS own ix y' (wz y' c' n' ret')) := by
  intro w hw
  rcases List.mem_append.mp hw with hw | hw
  · simp only [List.mem_cons, List.not_mem_nil, or_false] at hw
    rcases hw with rfl | rfl | rfl
    · exact ⟨wzm h1, wgd h1⟩
    · exact ⟨wzm h2, wgd h2⟩
    · exact ⟨wzm h4, wgd h4⟩
  · exact wzC h w hw
theorem w_preS {S : Type} {D : va_G} {cl : List vw_C} {tys : List (ClassId × FieldType)} {X : S → va_W} {al : List Nat} {ad : (Nat → Nat) × (Nat → Nat)} {s : State} {H : Heap} {locs : List Loc} {σ : S} {As : List Value} {k : Nat} (hK : va_K D cl tys s) (hP : va_P D cl (X σ) H) (hkc : wStr al ad s.heap.size s s.heap) (hN : wN s) (hS : va_S (wA al s.heap.size) s.heap H locs) (hk : k < 14) : PreV s H "java/lang/String" (ad.1 k) (va_Pc (.ref (ad.1 k) :: As) (wPre D cl tys X al ad σ H.size)) As :=
  ⟨(w_pre (As := .ref (ad.1 k) :: As) hK hP hkc hN hS).1, vk_recv hkc.1 hk hS, (w_pre (As := .ref (ad.1 k) :: As) hK hP hkc hN hS).2⟩
