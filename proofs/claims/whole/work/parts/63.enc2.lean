-- an item's characters, encoded: plain bytes, and the reference's side
section ENC2
variable {S : zSt} {r n : Nat} {c : Nat → Nat}
theorem cl_u8_25 {k : Nat} (hk : k < 4) {w : Nat} (hw : w < 1114112) {p : Nat} (hp : p < n) {y : List Nat} (K : Nat → Nat → Int32 → zSt → Option zSt) : ∀ m i S, Ix S r n c → i ≤ (u8 w).length → (u8 w).length - i < m → (∀ S', Fp k S S' → Pc k S' y (K k r (nI (p + spF n c p)) S')) → Pc k S ((u8 w).drop i ++ y) (f_Encoder_putUtf8_25 K m k r (nI p) (nI w) (nI (u8 w).length) (nI i) S) := by
  have hl := u8_len w
  intro m
  induction m with
  | zero => intro i S h a b; omega
  | succ m ih =>
    intro i S h a b hK
    have hn := h.2.1
    rw [f_Encoder_putUtf8_25]
    by_cases z : (u8 w).length ≤ i
    · rw [if_pos ((nI_leI (by omega) (by omega)).mpr z), List.drop_eq_nil_of_le z, List.nil_append, cl_pair h (by omega)]
      simp only [Option.bind_some, bI_0]
      have q := hK S Fp_rf
      unfold f_Encoder_putUtf8_64
      unfold spF at q
      cases hp : prF n c p with
      | true =>
        rw [hp, if_pos rfl] at q
        rw [if_neg (by decide), show (2 : Int32) = nI 2 from rfl, nI_add]
        exact q
      | false =>
        rw [hp, if_neg (by decide)] at q
        rw [if_pos rfl, nI_1]
        exact q
    · rw [if_neg (fun q => z ((nI_leI (by omega) (by omega)).mp q)), cl_byte hw (by omega), dr_cons (by omega)]
      simp only [Option.bind_some]
      have hb := u8_lt hw _ (gd_mem (l := u8 w) (i := i) (by omega))
      show Pc k S ([(u8 w).getD i 0] ++ ((u8 w).drop (i + 1) ++ y)) _
      refine Pc_bind (Pc_put hk hb) (fun S1 f1 => ?_)
      rw [nI_1]
      exact ih (i + 1) S1 (Ix_fp hk h f1) (by omega) (by omega) (fun S' f2 => hK S' (Fp_tr f1 f2))
theorem cl_u8 {k : Nat} (hk : k < 4) : ∀ q m i S, Ix S r n c → n - i ≤ q → n - i < m → i < 100 → Pc k S (enF 3 n c n q i) (f_Encoder_putUtf8_2 m k r (nI i) S) := by
  intro q
  induction q with
  | zero =>
    intro m i S h h1 h2 h3
    have hn := h.2.1
    obtain ⟨m, rfl⟩ : ∃ j, m = j + 1 := ⟨m - 1, by omega⟩
    rw [f_Encoder_putUtf8_2, h.2.2.1, if_pos ((nI_leI (by omega) (by omega)).mpr (by omega))]
    exact Pc_nil
  | succ q ih =>
    intro m i S h h1 h2 h3
    have hn := h.2.1
    obtain ⟨m, rfl⟩ : ∃ j, m = j + 1 := ⟨m - 1, by omega⟩
    rw [f_Encoder_putUtf8_2, enF_s, h.2.2.1]
    by_cases z : n ≤ i
    · rw [if_pos ((nI_leI (by omega) (by omega)).mpr z), if_pos z]
      exact Pc_nil
    · have ci := (h.2.2.2.2 i (by omega)).2.2
      have hs := spF_bd n c i
      have hl := u8_len (cdF n c i)
      rw [if_neg (fun y => z ((nI_leI (by omega) (by omega)).mp y)), if_neg z, cl_code h (by omega)]
      simp only [Option.bind_some]
      rw [cl_count (cd_lt ci)]
      simp only [Option.bind_some]
      unfold oneF
      rw [if_pos rfl]
      have := cl_u8_25 (r := r) (n := n) (c := c) hk (w := cdF n c i) (cd_lt ci) (p := i) (by omega) (y := enF 3 n c n q (i + spF n c i)) (f_Encoder_putUtf8_2 m) fu 0 S h (by omega) (by unfold fu; omega) (fun S' f1 => ih m (i + spF n c i) S' (Ix_fp hk h f1) (by omega) (by omega) (by omega))
      rw [List.drop_zero] at this
      exact this
theorem cl_utf8 {k : Nat} (hk : k < 4) (h : Ix S r n c) : Pc k S (enF 3 n c n 8 0) (f_Encoder_putUtf8 k r S) := cl_u8 hk 8 fu 0 S h (by have := h.2.1; omega) (by unfold fu; have := h.2.1; omega) (by omega)
/-- a header's item -/
theorem cl_asc {k : Nat} (hk : k < 4) (ha : ∀ i, i < n → 32 ≤ c i ∧ c i ≤ 126) : ∀ q m i S, Ix S r n c → n - i ≤ q → n - i < m → i < 100 → Pc k S (enF 3 n c n q i) (f_RequestWriter_putAscii_2 m k r (nI i) S) := by
  intro q
  induction q with
  | zero =>
    intro m i S h h1 h2 h3
    have hn := h.2.1
    obtain ⟨m, rfl⟩ : ∃ j, m = j + 1 := ⟨m - 1, by omega⟩
    rw [f_RequestWriter_putAscii_2, h.2.2.1, if_pos ((nI_leI (by omega) (by omega)).mpr (by omega))]
    exact Pc_nil
  | succ q ih =>
    intro m i S h h1 h2 h3
    have hn := h.2.1
    obtain ⟨m, rfl⟩ : ∃ j, m = j + 1 := ⟨m - 1, by omega⟩
    rw [f_RequestWriter_putAscii_2, enF_s, h.2.2.1]
    by_cases z : n ≤ i
    · rw [if_pos ((nI_leI (by omega) (by omega)).mpr z), if_pos z]
      exact Pc_nil
    · have ci := ha i (by omega)
      have hp : prF n c i = false := by
        unfold prF
        simp
        omega
      have e1 : spF n c i = 1 := by unfold spF; rw [hp]; rfl
      have e2 : oneF 3 n c n i = [c i] := by
        have ecd : cdF n c i = c i := by unfold cdF; rw [hp]; rfl
        unfold oneF
        rw [if_pos rfl, ecd]
        unfold u8
        rw [if_pos (by omega)]
      rw [if_neg (fun y => z ((nI_leI (by omega) (by omega)).mp y)), if_neg z, cl_at h (by omega), if_pos (by omega), e1, e2]
      simp only [Option.bind_some]
      refine Pc_bind (Pc_put hk (by omega)) (fun S1 f1 => ?_)
      rw [nI_1]
      exact ih m (i + 1) S1 (Ix_fp hk h f1) (by omega) (by omega) (by omega)
theorem cl_ascii {k : Nat} (hk : k < 4) (ha : ∀ i, i < n → 32 ≤ c i ∧ c i ≤ 126) (h : Ix S r n c) : Pc k S (enF 3 n c n 8 0) (f_RequestWriter_putAscii k r S) := cl_asc hk ha 8 fu 0 S h (by have := h.2.1; omega) (by unfold fu; have := h.2.1; omega) (by omega)
variable {as : Bool}
theorem mo_enc6 (h : Ix S r n c) {mx md : Nat} (hm : mx < 100) : ∀ q m p u, p ≤ n → n - p ≤ q → n - p < m → u < 100 → f_Mo_encode_6 m (nI r) (nI mx) (nI md) (nI p) (nI u) S = f_Mo_encode_49 (nI r) (nI md) (nI (edF n c mx q p u)) S := by
  have hn := h.2.1
  have hr := h.1
  intro q
  induction q with
  | zero =>
    intro m p u h1 h2 h3 h4
    obtain ⟨m, rfl⟩ : ∃ j, m = j + 1 := ⟨m - 1, by omega⟩
    rw [f_Mo_encode_6, gdiN (by omega) (by omega), nI_clamp (by omega), h.2.2.2.1]
    by_cases z : mx ≤ u
    · rw [if_pos ((nI_leI (by omega) (by omega)).mpr z)]; rfl
    · rw [if_neg (fun y => z ((nI_leI (by omega) (by omega)).mp y)), if_pos ((nI_leI (by omega) (by omega)).mpr (by omega))]; rfl
  | succ q ih =>
    intro m p u h1 h2 h3 h4
    obtain ⟨m, rfl⟩ : ∃ j, m = j + 1 := ⟨m - 1, by omega⟩
    rw [f_Mo_encode_6, gdiN (by omega) (by omega), nI_clamp (by omega), h.2.2.2.1, edF_s]
    by_cases z : mx ≤ u
    · rw [if_pos ((nI_leI (by omega) (by omega)).mpr z), if_pos (Or.inl z)]
    · rw [if_neg (fun y => z ((nI_leI (by omega) (by omega)).mp y))]
      by_cases z2 : n ≤ p
      · rw [if_pos ((nI_leI (by omega) (by omega)).mpr z2), if_pos (Or.inr z2)]
      · rw [if_neg (fun y => z2 ((nI_leI (by omega) (by omega)).mp y)), if_neg (by omega), mo_pair h (by omega)]
        simp only [Option.bind_some, bI_0]
        have hs := spF_bd n c p
        have i1 := ih m (p + spF n c p) (u + 1) (by omega) (by omega) (by omega) (by omega)
        rw [← i1]
        unfold f_Mo_encode_40 spF
        cases prF n c p with
        | true => rw [if_neg (by decide), if_pos rfl, show (2 : Int32) = nI 2 from rfl, nI_add, nI_1]
        | false => rw [if_pos rfl, if_neg (by decide), nI_1, nI_1]
theorem mo_enc {md : Nat} (hmd : md ≤ 3) {e : Nat} : ∀ q m i S, Ix S r n c → e ≤ n → e - i ≤ q → e - i < m → i < 100 → Pu as S (enF md n c e q i) (f_Mo_encode_52 m (nI r) (nI md) (nI e) (nI i) S) := by
  intro q
  induction q with
  | zero =>
    intro m i S h he h1 h2 h3
    have hn := h.2.1
    obtain ⟨m, rfl⟩ : ∃ j, m = j + 1 := ⟨m - 1, by omega⟩
    rw [f_Mo_encode_52, if_pos ((nI_leI (by omega) (by omega)).mpr (by omega))]
    exact Pu_nil
  | succ q ih =>
    intro m i S h he h1 h2 h3
    have hn := h.2.1
    have hr := h.1
    obtain ⟨m, rfl⟩ : ∃ j, m = j + 1 := ⟨m - 1, by omega⟩
    rw [f_Mo_encode_52, enF_s]
    by_cases z : e ≤ i
    · rw [if_pos ((nI_leI (by omega) (by omega)).mpr z), if_pos z]
      exact Pu_nil
    · obtain ⟨-, a2, ci⟩ := h.2.2.2.2 i (by omega)
      have hs := spF_bd n c i
      have m1 : (nI md = 1) ↔ md = 1 := nI_eq (b := 1) (by omega) (by omega)
      have m2 : (nI md = 2) ↔ md = 2 := nI_eq (b := 2) (by omega) (by omega)
      have m3 : (nI md = 3) ↔ md = 3 := nI_eq (b := 3) (by omega) (by omega)
      have c37 : (nI (c i) = 37) ↔ c i = 37 := nI_eq (b := 37) (by omega) (by omega)
      have c32 : (nI (c i) = 32) ↔ c i = 32 := nI_eq (b := 32) (by omega) (by omega)
      have key : ∀ t : Bool, t = efF c e i → Pu as S (oneF md n c e i ++ enF md n c e q (i + spF n c i)) (f_Mo_encode_134 (f_Mo_encode_52 m) (nI r) (nI md) (nI e) (nI i) (nI (c i)) (bI t) S) := by
        intro t ht
        unfold f_Mo_encode_134
        rw [mo_pair h (by omega)]
        simp only [Option.bind_some, bI_0, m3, m1]
        cases hp : prF n c i with
        | true =>
          have e2 : spF n c i = 2 := by unfold spF; rw [hp]; rfl
          have hp' := hp
          unfold prF at hp'
          simp at hp'
          obtain ⟨-, b2, b3⟩ := h.2.2.2.2 (i + 1) (by omega)
          have ecd : ((65536 + (1024 * (nI (c i) - 55296))) + nI (c (i + 1))) - 56320 = nI (cdF n c i) := by
            unfold cdF
            rw [hp, if_pos rfl, show (55296 : Int32) = nI 55296 from rfl, pk_sub (by omega), show (1024 : Int32) = nI 1024 from rfl, pk_mul, show (65536 : Int32) = nI 65536 from rfl, nI_add, nI_add, show (56320 : Int32) = nI 56320 from rfl, pk_sub (by omega), show 65536 + 1024 * (c i - 55296) + c (i + 1) - 56320 = 65536 + 1024 * (c i - 55296) + (c (i + 1) - 56320) by omega]
          rw [if_neg (by decide), ix_8, nI_1, gdiN (by omega) (by omega), nI_clamp (by omega), show 8 * r + i + 1 = 8 * r + (i + 1) by omega, b2, ecd]
          have go : ∀ rw' : Bool, Pu as S (sgL rw' (u8 (cdF n c i)) ++ enF md n c e q (i + 2)) (f_Mo_encode_187 (f_Mo_encode_52 m) (nI r) (nI md) (nI e) (nI i) (bI rw') (nI (cdF n c i)) S) := by
            intro rw'
            unfold f_Mo_encode_187 f_Mo_encode_274
            refine Pu_bind (mo_utf (cd_lt ci) rw') (fun S1 f1 => ?_)
            rw [nI_1, nI_1]
            exact ih m (i + 1 + 1) S1 (Ix_fo h f1) he (by omega) (by omega) (by omega)
          unfold oneF
          rw [e2, hp]
          by_cases y : md = 3
          · rw [if_pos y, if_pos y]
            exact go true
          · rw [if_neg y, if_neg y, if_pos rfl]
            exact go false
        | false =>
          have e1 : spF n c i = 1 := by unfold spF; rw [hp]; rfl
          have ecd : cdF n c i = c i := by unfold cdF; rw [hp]; rfl
          have hcw : c i < 1114112 := by omega
          have go : ∀ S', Fo as S S' → Pu as S' (enF md n c e q (i + 1)) (f_Mo_encode_274 (f_Mo_encode_52 m) (nI r) (nI md) (nI e) (nI i) S') := by
            intro S' f1
            unfold f_Mo_encode_274
            rw [nI_1]
            exact ih m (i + 1) S' (Ix_fo h f1) he (by omega) (by omega) (by omega)
          have raw : ∀ x, x < 256 → Pu as S ([x] ++ enF md n c e q (i + 1)) ((f_Mo_put (nI x) S).bind fun u => f_Mo_encode_274 (f_Mo_encode_52 m) (nI r) (nI md) (nI e) (nI i) u) := fun x hx => Pu_bind (Pu_put hx) go
          have f246 : md ≠ 3 → Pu as S ((if md = 2 ∧ c i = 32 then [43] else esc (u8 (c i))) ++ enF md n c e q (i + 1)) (f_Mo_encode_246 (f_Mo_encode_52 m) (nI r) (nI md) (nI e) (nI i) (nI (c i)) S) := by
            intro hm3
            have fe : Pu as S (esc (u8 (c i)) ++ enF md n c e q (i + 1)) (f_Mo_encode_267 (f_Mo_encode_52 m) (nI r) (nI md) (nI e) (nI i) (nI (c i)) S) := Pu_bind (mo_utf hcw false) go
            unfold f_Mo_encode_246
            simp only [m2, c32]
            by_cases y : md = 2
            · rw [if_pos y]
              by_cases y2 : c i = 32
              · rw [if_pos y2, if_pos ⟨y, y2⟩]; exact raw 43 (by omega)
              · rw [if_neg y2, if_neg (fun t => y2 t.2)]; exact fe
            · rw [if_neg y, if_neg (fun t => y t.1)]; exact fe
          unfold oneF
          rw [e1, if_pos rfl, hp, ecd]
          by_cases y : md = 3
          · rw [if_pos y, if_pos y]
            exact Pu_bind (mo_utf hcw true) go
          · rw [if_neg y, if_neg y, if_neg (show ¬ (false = true) by decide), mo_plain S ci]
            simp only [Option.bind_some, bI_0]
            cases hu : cUn (c i) with
            | true =>
              rw [if_pos (show true = true from rfl), if_neg (show ¬ (true = false) by decide)]
              exact raw _ (by have := cUn_lt hu; omega)
            | false =>
              rw [if_neg (show ¬ (false = true) by decide), if_pos (show false = false from rfl)]
              by_cases y1 : md = 1
              · rw [if_pos y1, mo_loose S ci]
                simp only [Option.bind_some, bI_0]
                cases hl : cLo (c i) with
                | true =>
                  rw [if_pos (show md = 1 ∧ (true = true ∨ efF c e i = true) from ⟨y1, Or.inl rfl⟩), if_neg (show ¬ (true = false) by decide)]
                  exact raw _ (by have := cLo_lt hl; omega)
                | false =>
                  rw [if_pos (show false = false from rfl), ht]
                  cases hes : efF c e i with
                  | true =>
                    rw [if_pos (show md = 1 ∧ (false = true ∨ true = true) from ⟨y1, Or.inr rfl⟩), if_neg (show ¬ (true = false) by decide)]
                    refine raw _ ?_
                    unfold efF at hes
                    simp at hes
                    omega
                  | false =>
                    rw [if_neg (show ¬ (md = 1 ∧ (false = true ∨ false = true)) from fun t => by rcases t.2 with t | t <;> cases t), if_pos (show false = false from rfl)]
                    exact f246 y
              · rw [if_neg (fun t => y1 t.1), if_neg y1]
                exact f246 y
      rw [if_neg (fun y => z ((nI_leI (by omega) (by omega)).mp y)), if_neg z, ix_8, gdiN (by omega) (by omega), nI_clamp (by omega), a2]
      simp only [c37]
      unfold f_Mo_encode_133
      by_cases y : c i = 37
      · rw [if_pos y, show (2 : Int32) = nI 2 from rfl, nI_add]
        by_cases y2 : e ≤ i + 2
        · rw [if_pos ((nI_leI (by omega) (by omega)).mpr y2)]
          refine key false ?_
          unfold efF
          have : ¬ i + 2 < e := by omega
          simp [this]
        · obtain ⟨-, b2, b3⟩ := h.2.2.2.2 (i + 1) (by omega)
          obtain ⟨-, d2, d3⟩ := h.2.2.2.2 (i + 2) (by omega)
          have t : c i = 37 ∧ i + 2 < e := by omega
          rw [if_neg (fun q => y2 ((nI_leI (by omega) (by omega)).mp q)), nI_1, nI_add, gdiN (by omega) (by omega), nI_clamp (by omega), show 8 * r + i + 1 = 8 * r + (i + 1) by omega, b2, mo_hex S b3]
          simp only [Option.bind_some, bI_0]
          cases hx1 : cHx (c (i + 1)) with
          | false =>
            rw [if_pos rfl]
            refine key false ?_
            unfold efF
            rw [hx1]
            simp
          | true =>
            rw [if_neg (by decide), gdiN (by omega) (by omega), nI_clamp (by omega), show 8 * r + i + 2 = 8 * r + (i + 2) by omega, d2, mo_hex S d3]
            simp only [Option.bind_some, bI_0]
            cases hx2 : cHx (c (i + 2)) with
            | false =>
              rw [if_pos rfl]
              refine key false ?_
              unfold efF
              rw [hx2]
              simp
            | true =>
              rw [if_neg (by decide)]
              refine key true ?_
              unfold efF
              rw [hx1, hx2, decide_eq_true t]
              rfl
      · rw [if_neg y]
        refine key false ?_
        unfold efF
        simp [y]
theorem mo_encode (h : Ix S r n c) {mx md : Nat} (hm : mx < 100) (hmd : md ≤ 3) : Pu as S (enF md n c (edF n c mx 8 0 0) 8 0) (f_Mo_encode (nI r) (nI mx) (nI md) S) := by
  have hn := h.2.1
  have h1 := mo_enc6 h (mx := mx) (md := md) hm 8 fu 0 0 (by omega) (by omega) (by unfold fu; omega) (by omega)
  have h2 := edF_le n c mx 8 0 0 (by omega)
  have e : f_Mo_encode (nI r) (nI mx) (nI md) S = f_Mo_encode_6 fu (nI r) (nI mx) (nI md) (nI 0) (nI 0) S := rfl
  rw [e, h1]
  exact mo_enc hmd 8 fu 0 S h h2 (by omega) (by unfold fu; omega) (by omega)
theorem mo_encode8 (h : Ix S r n c) {md : Nat} (hmd : md ≤ 3) : Pu as S (enF md n c n 8 0) (f_Mo_encode (nI r) 8 (nI md) S) := by
  have hn := h.2.1
  have := mo_encode (as := as) h (mx := 8) (md := md) (by omega) hmd
  rw [edF_8 n c hn 8 0 0 (by omega) (by omega) (by omega)] at this
  exact this
end ENC2
