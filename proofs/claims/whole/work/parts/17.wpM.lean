def wp_Mod_thrown (σ : MS) (post : Int32 → MS → Prop) : Prop :=
 post (m_err σ) σ
def L_Mod_feed_81 (post : Int32 → MS → Prop) (k28 : Int32 → Int32 → Int32 → Int32 → Int32 → Int32 → MS → Prop) (x1 : Int32) (x2 : Int32) (x3 : Int32) (x4 : Int32) (x5 : Int32) (x6 : Int32) (s0 : Int32) (σ : MS) : Prop :=
 (∀ σ3, σ3 = (m_fed' σ ((m_fed σ) + 1)) →
 (vp_in (m_fed σ) 4100 ∧
 (∀ σ4, σ4 = (m_oc' σ3 (upd (m_oc σ3) ((m_fed σ) : Int32).toNatClampNeg (((s0.toUInt32 >>> (((24 - (8 * (x6 &&& 3))) : Int32).toUInt32 &&& Int32.toUInt32 31)).toInt32) &&& 255))) →
 k28 x1 x2 x3 x4 x5 (x6 + 1) σ4)))
def L_Mod_feed_28 (post : Int32 → MS → Prop) : Nat → Int32 → Int32 → Int32 → Int32 → Int32 → Int32 → MS → Prop
  | 0, _, _, _, _, _, _, _ => False
  | n + 1, x1, x2, x3, x4, x5, x6, σ =>
    ((20 ≤ x6 → post (m_fed σ) σ) ∧
     (¬ (20 ≤ x6) → ((4 ≤ x6 → ((8 ≤ x6 → ((12 ≤ x6 → ((16 ≤ x6 → L_Mod_feed_81 post (fun x1 x2 x3 x4 x5 x6 σ => L_Mod_feed_28 post  n x1 x2 x3 x4 x5 x6 σ) x1 x2 x3 x4 x5 x6 x5 σ) ∧
     (¬ (16 ≤ x6) → L_Mod_feed_81 post (fun x1 x2 x3 x4 x5 x6 σ => L_Mod_feed_28 post  n x1 x2 x3 x4 x5 x6 σ) x1 x2 x3 x4 x5 x6 x4 σ))) ∧
     (¬ (12 ≤ x6) → L_Mod_feed_81 post (fun x1 x2 x3 x4 x5 x6 σ => L_Mod_feed_28 post  n x1 x2 x3 x4 x5 x6 σ) x1 x2 x3 x4 x5 x6 x3 σ))) ∧
     (¬ (8 ≤ x6) → L_Mod_feed_81 post (fun x1 x2 x3 x4 x5 x6 σ => L_Mod_feed_28 post  n x1 x2 x3 x4 x5 x6 σ) x1 x2 x3 x4 x5 x6 x2 σ))) ∧
     (¬ (4 ≤ x6) → L_Mod_feed_81 post (fun x1 x2 x3 x4 x5 x6 σ => L_Mod_feed_28 post  n x1 x2 x3 x4 x5 x6 σ) x1 x2 x3 x4 x5 x6 x1 σ))))
def wp_Mod_feed (a1 : Int32) (a2 : Int32) (a3 : Int32) (a4 : Int32) (a5 : Int32) (σ : MS) (post : Int32 → MS → Prop) : Prop :=
 (∀ σ1, σ1 = (m_err' σ 0) →
 ((((m_fed σ1) + 20) ≤ 4100 → ∃ n, L_Mod_feed_28 post n a1 a2 a3 a4 a5 0 σ1) ∧
 (¬ (((m_fed σ1) + 20) ≤ 4100) → (∀ σ2, σ2 = (m_err' σ1 1) →
 post 0 σ2))))
def wp_Mod_bad (a1 : Int32) (σ : MS) (post : Int32 → MS → Prop) : Prop :=
 ((0 ≤ (m_wrong σ) → post 0 σ) ∧
 (¬ (0 ≤ (m_wrong σ)) → (∀ σ1, σ1 = (m_wrong' σ a1) →
 post 0 σ1)))
def wp_Mod_add (a1 : Int32) (a2 : Int32) (a3 : Int32) (σ : MS) (post : Int32 → MS → Prop) : Prop :=
 (vp_in (m_many σ) 9000 ∧
 (∀ σ1, σ1 = (m_kd' σ (upd (m_kd σ) ((m_many σ) : Int32).toNatClampNeg a1)) →
 (vp_in (m_many σ1) 9000 ∧
 (∀ σ2, σ2 = (m_fr' σ1 (upd (m_fr σ1) ((m_many σ1) : Int32).toNatClampNeg a2)) →
 (∀ σ3, σ3 = (m_many' σ2 ((m_many σ2) + 1)) →
 (vp_in (m_many σ2) 9000 ∧
 (∀ σ4, σ4 = (m_to' σ3 (upd (m_to σ3) ((m_many σ2) : Int32).toNatClampNeg a3)) →
 post 1 σ4)))))))
def wp_Mod_c (a1 : Int32) (σ : MS) (post : Int32 → MS → Prop) : Prop :=
 (((m_let σ) ≤ a1 → post (-1) σ) ∧
 (¬ ((m_let σ) ≤ a1) → (vp_in a1 4100 ∧
 post (m_tx σ (a1 : Int32).toNatClampNeg) σ)))
def L_Mod_comment_0 (post : MS → Prop) : Nat → MS → Prop
  | 0, _ => False
  | n + 1, σ =>
    (((m_let σ) ≤ (m_at σ) → post σ) ∧
     (¬ ((m_let σ) ≤ (m_at σ)) → wp_Mod_c (m_at σ) σ (fun r1 σ2 =>
     ((r1 = 10 → post σ2) ∧
     (¬ (r1 = 10) → (∀ σ3, σ3 = (m_at' σ2 ((m_at σ2) + 1)) →
     (fun σ => L_Mod_comment_0 post  n σ) σ3))))))
def wp_Mod_comment (σ : MS) (post : MS → Prop) : Prop :=
 ∃ n, L_Mod_comment_0 post n σ
def L_Mod_joined_64 (post : MS → Prop) (k0 : MS → Prop) (s0 : Int32) (s1 : Int32) (σ : MS) : Prop :=
 (∀ σ9, σ9 = (m_at' σ (s1 + s0)) →
 k0 σ9)
def L_Mod_joined_41 (post : MS → Prop) (k0 : MS → Prop) (σ : MS) : Prop :=
 wp_Mod_c (m_at σ) σ (fun r7 σ8 =>
 ((¬ r7 = 32 → L_Mod_joined_64 post k0 2 (m_at σ) σ8) ∧
 (r7 = 32 → L_Mod_joined_64 post k0 1 (m_at σ) σ8)))
def L_Mod_joined_0 (post : MS → Prop) : Nat → MS → Prop
  | 0, _ => False
  | n + 1, σ =>
    wp_Mod_c (m_at σ) σ (fun r1 σ2 =>
     ((r1 = 32 → L_Mod_joined_41 post (fun σ => L_Mod_joined_0 post  n σ) σ2) ∧
     (¬ (r1 = 32) → wp_Mod_c (m_at σ2) σ2 (fun r3 σ4 =>
     ((¬ r3 = 92 → post σ4) ∧
     (r3 = 92 → wp_Mod_c ((m_at σ4) + 1) σ4 (fun r5 σ6 =>
     ((¬ r5 = 10 → post σ6) ∧
     (r5 = 10 → L_Mod_joined_41 post (fun σ => L_Mod_joined_0 post  n σ) σ6)))))))))
def wp_Mod_joined (σ : MS) (post : MS → Prop) : Prop :=
 ∃ n, L_Mod_joined_0 post n σ
def L_Mod_between_56 (post : MS → Prop) (k0 : MS → Prop) (x1 : Int32) (σ : MS) : Prop :=
 ((¬ (m_at σ) = x1 → k0 σ) ∧
 ((m_at σ) = x1 → post σ))
def L_Mod_between_26 (post : MS → Prop) (k0 : MS → Prop) (x1 : Int32) (σ : MS) : Prop :=
 wp_Mod_c (m_at σ) σ (fun r5 σ6 =>
 ((¬ r5 = 10 → L_Mod_between_56 post k0 x1 σ6) ∧
 (r5 = 10 → (((m_depth σ6) ≤ 0 → L_Mod_between_56 post k0 x1 σ6) ∧
 (¬ ((m_depth σ6) ≤ 0) → (∀ σ7, σ7 = (m_at' σ6 ((m_at σ6) + 1)) →
 L_Mod_between_56 post k0 x1 σ7))))))
def L_Mod_between_0 (post : MS → Prop) : Nat → MS → Prop
  | 0, _ => False
  | n + 1, σ =>
    wp_Mod_joined σ (fun σ1 =>
     wp_Mod_c (m_at σ1) σ1 (fun r2 σ3 =>
     ((¬ r2 = 35 → L_Mod_between_26 post (fun σ => L_Mod_between_0 post  n σ) (m_at σ) σ3) ∧
     (r2 = 35 → wp_Mod_comment σ3 (fun σ4 =>
     L_Mod_between_26 post (fun σ => L_Mod_between_0 post  n σ) (m_at σ) σ4)))))
def wp_Mod_between (σ : MS) (post : MS → Prop) : Prop :=
 ∃ n, L_Mod_between_0 post n σ
def wp_Mod_isDigit (a1 : Int32) (σ : MS) (post : Int32 → MS → Prop) : Prop :=
 ((a1 < 48 → post 0 σ) ∧
 (¬ (a1 < 48) → ((57 < a1 → post 0 σ) ∧
 (¬ (57 < a1) → post 1 σ))))
def L_Mod_isLetter_30 (post : Int32 → MS → Prop) (σ : MS) : Prop :=
 post 1 σ
def L_Mod_isLetter_24 (post : Int32 → MS → Prop) (x0 : Int32) (σ : MS) : Prop :=
 ((¬ x0 = 95 → post 0 σ) ∧
 (x0 = 95 → L_Mod_isLetter_30 post σ))
def L_Mod_isLetter_12 (post : Int32 → MS → Prop) (x0 : Int32) (σ : MS) : Prop :=
 ((x0 < 65 → L_Mod_isLetter_24 post x0 σ) ∧
 (¬ (x0 < 65) → ((x0 ≤ 90 → L_Mod_isLetter_30 post σ) ∧
 (¬ (x0 ≤ 90) → L_Mod_isLetter_24 post x0 σ))))
def wp_Mod_isLetter (a1 : Int32) (σ : MS) (post : Int32 → MS → Prop) : Prop :=
 ((a1 < 97 → L_Mod_isLetter_12 post a1 σ) ∧
 (¬ (a1 < 97) → ((a1 ≤ 122 → L_Mod_isLetter_30 post σ) ∧
 (¬ (a1 ≤ 122) → L_Mod_isLetter_12 post a1 σ))))
def L_Mod_value_36 (post : Int32 → MS → Prop) (x0 : Int32) (σ : MS) : Prop :=
 ((x0 < 65 → post 99 σ) ∧
 (¬ (x0 < 65) → ((70 < x0 → post 99 σ) ∧
 (¬ (70 < x0) → post ((x0 - 65) + 10) σ))))
def wp_Mod_value (a1 : Int32) (σ : MS) (post : Int32 → MS → Prop) : Prop :=
 wp_Mod_isDigit a1 σ (fun r1 σ2 =>
 ((r1 = 0 → ((a1 < 97 → L_Mod_value_36 post a1 σ2) ∧
 (¬ (a1 < 97) → ((102 < a1 → L_Mod_value_36 post a1 σ2) ∧
 (¬ (102 < a1) → post ((a1 - 97) + 10) σ2))))) ∧
 (¬ (r1 = 0) → post (a1 - 48) σ2)))
def L_Mod_digits_57 (post : Int32 → MS → Prop) (k2 : Int32 → Int32 → Int32 → MS → Prop) (x1 : Int32) (x2 : Int32) (x3 : Int32) (σ : MS) : Prop :=
 k2 x1 x2 (x3 + 1) σ
def L_Mod_digits_2 (post : Int32 → MS → Prop) : Nat → Int32 → Int32 → Int32 → MS → Prop
  | 0, _, _, _, _ => False
  | n + 1, x1, x2, x3, σ =>
    wp_Mod_c x3 σ (fun r1 σ2 =>
     wp_Mod_value r1 σ2 (fun r3 σ4 =>
     ((r3 < x2 → L_Mod_digits_57 post (fun x1 x2 x3 σ => L_Mod_digits_2 post  n x1 x2 x3 σ) x1 x2 x3 σ4) ∧
     (¬ (r3 < x2) → wp_Mod_c x3 σ4 (fun r5 σ6 =>
     ((¬ r5 = 95 → post x3 σ6) ∧
     (r5 = 95 → ((x3 ≤ x1 → post x3 σ6) ∧
     (¬ (x3 ≤ x1) → wp_Mod_c (x3 - 1) σ6 (fun r7 σ8 =>
     wp_Mod_value r7 σ8 (fun r9 σ10 =>
     ((x2 ≤ r9 → post x3 σ10) ∧
     (¬ (x2 ≤ r9) → wp_Mod_c (x3 + 1) σ10 (fun r11 σ12 =>
     wp_Mod_value r11 σ12 (fun r13 σ14 =>
     ((x2 ≤ r13 → post x3 σ14) ∧
     (¬ (x2 ≤ r13) → L_Mod_digits_57 post (fun x1 x2 x3 σ => L_Mod_digits_2 post  n x1 x2 x3 σ) x1 x2 x3 σ14)))))))))))))))))
def wp_Mod_digits (a1 : Int32) (a2 : Int32) (σ : MS) (post : Int32 → MS → Prop) : Prop :=
 ∃ n, L_Mod_digits_2 post n a1 a2 a1 σ
def L_Mod_number_350 (post : Int32 → MS → Prop) (x1 : Int32) (σ : MS) : Prop :=
 wp_Mod_bad x1 σ (fun r28 σ29 =>
 (vB r28 ∧ post r28 σ29))
def L_Mod_number_320 (post : Int32 → MS → Prop) (x1 : Int32) (x4 : Int32) (x5 : Int32) (σ : MS) : Prop :=
 (∀ σ17, σ17 = (m_at' σ x5) →
 wp_Mod_c x5 σ17 (fun r18 σ19 =>
 wp_Mod_isLetter r18 σ19 (fun r20 σ21 =>
 ((¬ r20 = 0 → L_Mod_number_350 post x1 σ21) ∧
 (r20 = 0 → wp_Mod_c x5 σ21 (fun r22 σ23 =>
 wp_Mod_isDigit r22 σ23 (fun r24 σ25 =>
 ((r24 = 0 → wp_Mod_add x4 x1 x5 σ25 (fun r26 σ27 =>
 (vB r26 ∧ post r26 σ27))) ∧
 (¬ (r24 = 0) → L_Mod_number_350 post x1 σ25)))))))))
def L_Mod_number_284 (post : Int32 → MS → Prop) (k248 : Int32 → Int32 → Int32 → Int32 → Int32 → MS → Prop) (x1 : Int32) (x4 : Int32) (x5 : Int32) (x8 : Int32) (s0 : Int32) (s1 : Int32) (σ : MS) : Prop :=
 k248 x1 x4 x5 (s1 &&& s0) (x8 + 1) σ
def L_Mod_number_279 (post : Int32 → MS → Prop) (k248 : Int32 → Int32 → Int32 → Int32 → Int32 → MS → Prop) (x1 : Int32) (x4 : Int32) (x5 : Int32) (x8 : Int32) (s0 : Int32) (σ : MS) : Prop :=
 L_Mod_number_284 post k248 x1 x4 x5 x8 1 s0 σ
def L_Mod_number_248 (post : Int32 → MS → Prop) : Nat → Int32 → Int32 → Int32 → Int32 → Int32 → MS → Prop
  | 0, _, _, _, _, _, _ => False
  | n + 1, x1, x4, x5, x7, x8, σ =>
    ((x5 ≤ x8 → ((¬ x4 = 5 → L_Mod_number_320 post x1 x4 x5 σ) ∧
     (x4 = 5 → wp_Mod_c x1 σ (fun r42 σ43 =>
     ((¬ r42 = 48 → L_Mod_number_320 post x1 x4 x5 σ43) ∧
     (r42 = 48 → ((¬ x7 = 0 → L_Mod_number_320 post x1 x4 x5 σ43) ∧
     (x7 = 0 → wp_Mod_bad x1 σ43 (fun r44 σ45 =>
     (vB r44 ∧ post r44 σ45)))))))))) ∧
     (¬ (x5 ≤ x8) → wp_Mod_c x8 σ (fun r46 σ47 =>
     ((r46 = 48 → L_Mod_number_279 post (fun x1 x4 x5 x7 x8 σ => L_Mod_number_248 post  n x1 x4 x5 x7 x8 σ) x1 x4 x5 x8 x7 σ47) ∧
     (¬ (r46 = 48) → wp_Mod_c x8 σ47 (fun r48 σ49 =>
     ((¬ r48 = 95 → L_Mod_number_284 post (fun x1 x4 x5 x7 x8 σ => L_Mod_number_248 post  n x1 x4 x5 x7 x8 σ) x1 x4 x5 x8 0 x7 σ49) ∧
     (r48 = 95 → L_Mod_number_279 post (fun x1 x4 x5 x7 x8 σ => L_Mod_number_248 post  n x1 x4 x5 x7 x8 σ) x1 x4 x5 x8 x7 σ49))))))))
def L_Mod_number_242 (post : Int32 → MS → Prop) (x1 : Int32) (x4 : Int32) (x5 : Int32) (σ : MS) : Prop :=
 ∃ n, L_Mod_number_248 post n x1 x4 x5 1 x1 σ
def L_Mod_number_200 (post : Int32 → MS → Prop) (x1 : Int32) (x4 : Int32) (x5 : Int32) (s0 : Int32) (σ : MS) : Prop :=
 wp_Mod_c x5 σ (fun r34 σ35 =>
 ((¬ (r34 ||| 32) = 101 → L_Mod_number_242 post x1 x4 x5 σ35) ∧
 ((r34 ||| 32) = 101 → wp_Mod_c s0 σ35 (fun r36 σ37 =>
 wp_Mod_isDigit r36 σ37 (fun r38 σ39 =>
 ((r38 = 0 → L_Mod_number_242 post x1 x4 x5 σ39) ∧
 (¬ (r38 = 0) → wp_Mod_digits s0 10 σ39 (fun r40 σ41 =>
 L_Mod_number_242 post x1 6 r40 σ41))))))))
def L_Mod_number_189 (post : Int32 → MS → Prop) (x1 : Int32) (x4 : Int32) (x5 : Int32) (σ : MS) : Prop :=
 L_Mod_number_200 post x1 x4 x5 (x5 + 2) σ
def L_Mod_number_163 (post : Int32 → MS → Prop) (x1 : Int32) (x4 : Int32) (x5 : Int32) (σ : MS) : Prop :=
 wp_Mod_c (x5 + 1) σ (fun r30 σ31 =>
 ((r30 = 43 → L_Mod_number_189 post x1 x4 x5 σ31) ∧
 (¬ (r30 = 43) → wp_Mod_c (x5 + 1) σ31 (fun r32 σ33 =>
 ((¬ r32 = 45 → L_Mod_number_200 post x1 x4 x5 (x5 + 1) σ33) ∧
 (r32 = 45 → L_Mod_number_189 post x1 x4 x5 σ33))))))
def L_Mod_number_96 (post : Int32 → MS → Prop) (x1 : Int32) (x3 : Int32) (x4 : Int32) (s0 : Int32) (σ : MS) : Prop :=
 wp_Mod_digits s0 x3 σ (fun r13 σ14 =>
 ((¬ r13 = s0 → L_Mod_number_320 post x1 x4 r13 σ14) ∧
 (r13 = s0 → wp_Mod_bad x1 σ14 (fun r15 σ16 =>
 (vB r15 ∧ post r15 σ16)))))
def L_Mod_number_65 (post : Int32 → MS → Prop) (x1 : Int32) (s0 : Int32) (σ : MS) : Prop :=
 ((s0 = 10 → wp_Mod_digits x1 10 σ (fun r5 σ6 =>
 wp_Mod_c r5 σ6 (fun r7 σ8 =>
 ((¬ r7 = 46 → L_Mod_number_163 post x1 5 r5 σ8) ∧
 (r7 = 46 → wp_Mod_digits (r5 + 1) 10 σ8 (fun r9 σ10 =>
 L_Mod_number_163 post x1 6 r9 σ10)))))) ∧
 (¬ (s0 = 10) → wp_Mod_c (x1 + 2) σ (fun r11 σ12 =>
 ((¬ r11 = 95 → L_Mod_number_96 post x1 s0 5 (x1 + 2) σ12) ∧
 (r11 = 95 → L_Mod_number_96 post x1 s0 5 (x1 + 3) σ12)))))
def wp_Mod_number (σ : MS) (post : Int32 → MS → Prop) : Prop :=
 wp_Mod_c ((m_at σ) + 1) σ (fun r1 σ2 =>
 wp_Mod_c (m_at σ) σ2 (fun r3 σ4 =>
 ((r3 = 48 → ((¬ (r1 ||| 32) = 120 → ((¬ (r1 ||| 32) = 111 → ((¬ (r1 ||| 32) = 98 → L_Mod_number_65 post (m_at σ) 10 σ4) ∧
 ((r1 ||| 32) = 98 → L_Mod_number_65 post (m_at σ) 2 σ4))) ∧
 ((r1 ||| 32) = 111 → L_Mod_number_65 post (m_at σ) 8 σ4))) ∧
 ((r1 ||| 32) = 120 → L_Mod_number_65 post (m_at σ) 16 σ4))) ∧
 (¬ (r3 = 48) → L_Mod_number_65 post (m_at σ) 10 σ4))))
def L_Mod_stands_2 (i2 : Nat) (post : Int32 → MS → Prop) : Nat → Int32 → Int32 → MS → Prop
  | 0, _, _, _ => False
  | n + 1, x1, x3, σ =>
    wp_Str_length i2 σ (fun r1 σ2 =>
     ((r1 ≤ x3 → post 1 σ2) ∧
     (¬ (r1 ≤ x3) → wp_Mod_c (x1 + x3) σ2 (fun r3 σ4 =>
     wp_Str_charAt i2 x3 σ4 (fun r5 σ6 =>
     ((r3 = r5 → (fun x1 x3 σ => L_Mod_stands_2 i2 post  n x1 x3 σ) x1 (x3 + 1) σ6) ∧
     (¬ (r3 = r5) → post 0 σ6)))))))
def wp_Mod_stands (a1 : Int32) (i2 : Nat) (σ : MS) (post : Int32 → MS → Prop) : Prop :=
 ∃ n, L_Mod_stands_2 i2 post n a1 0 σ
def L_Mod_string_142 (post : Int32 → MS → Prop) (x2 : Int32) (x4 : Int32) (x5 : Int32) (σ : MS) : Prop :=
 ((x5 < (m_let σ) → (∀ σ19, σ19 = (m_at' σ (x5 + x4)) →
 wp_Mod_add 7 x2 (m_at σ19) σ19 (fun r20 σ21 =>
 (vB r20 ∧ post r20 σ21)))) ∧
 (¬ (x5 < (m_let σ)) → wp_Mod_bad x2 σ (fun r22 σ23 =>
 (vB r22 ∧ post r22 σ23))))
def L_Mod_string_136 (post : Int32 → MS → Prop) (k46 : Int32 → Int32 → Int32 → Int32 → MS → Prop) (x2 : Int32) (x3 : Int32) (x4 : Int32) (s0 : Int32) (s1 : Int32) (σ : MS) : Prop :=
 k46 x2 x3 x4 (s1 + s0) σ
def L_Mod_string_118 (post : Int32 → MS → Prop) (k46 : Int32 → Int32 → Int32 → Int32 → MS → Prop) (x2 : Int32) (x3 : Int32) (x4 : Int32) (x5 : Int32) (σ : MS) : Prop :=
 wp_Mod_c x5 σ (fun r17 σ18 =>
 ((¬ r17 = 92 → L_Mod_string_136 post k46 x2 x3 x4 1 x5 σ18) ∧
 (r17 = 92 → L_Mod_string_136 post k46 x2 x3 x4 2 x5 σ18)))
def L_Mod_string_95 (post : Int32 → MS → Prop) (k46 : Int32 → Int32 → Int32 → Int32 → MS → Prop) (x2 : Int32) (x3 : Int32) (x4 : Int32) (x5 : Int32) (σ : MS) : Prop :=
 ((¬ x4 = 1 → L_Mod_string_118 post k46 x2 x3 x4 x5 σ) ∧
 (x4 = 1 → wp_Mod_c x5 σ (fun r13 σ14 =>
 ((¬ r13 = 10 → L_Mod_string_118 post k46 x2 x3 x4 x5 σ14) ∧
 (r13 = 10 → wp_Mod_bad x2 σ14 (fun r15 σ16 =>
 (vB r15 ∧ post r15 σ16)))))))
def L_Mod_string_46 (post : Int32 → MS → Prop) : Nat → Int32 → Int32 → Int32 → Int32 → MS → Prop
  | 0, _, _, _, _, _ => False
  | n + 1, x2, x3, x4, x5, σ =>
    (((m_let σ) ≤ x5 → L_Mod_string_142 post x2 x4 x5 σ) ∧
     (¬ ((m_let σ) ≤ x5) → wp_Mod_c x5 σ (fun r7 σ8 =>
     ((¬ r7 = x3 → L_Mod_string_95 post (fun x2 x3 x4 x5 σ => L_Mod_string_46 post  n x2 x3 x4 x5 σ) x2 x3 x4 x5 σ8) ∧
     (r7 = x3 → ((x4 = 1 → L_Mod_string_142 post x2 x4 x5 σ8) ∧
     (¬ (x4 = 1) → wp_Mod_c (x5 + 1) σ8 (fun r9 σ10 =>
     ((¬ r9 = x3 → L_Mod_string_95 post (fun x2 x3 x4 x5 σ => L_Mod_string_46 post  n x2 x3 x4 x5 σ) x2 x3 x4 x5 σ10) ∧
     (r9 = x3 → wp_Mod_c (x5 + 2) σ10 (fun r11 σ12 =>
     ((r11 = x3 → L_Mod_string_142 post x2 x4 x5 σ12) ∧
     (¬ (r11 = x3) → L_Mod_string_95 post (fun x2 x3 x4 x5 σ => L_Mod_string_46 post  n x2 x3 x4 x5 σ) x2 x3 x4 x5 σ12)))))))))))))
def L_Mod_string_38 (post : Int32 → MS → Prop) (x1 : Int32) (x2 : Int32) (x3 : Int32) (s0 : Int32) (σ : MS) : Prop :=
 ∃ n, L_Mod_string_46 post n x2 x3 s0 (x1 + s0) σ
def L_Mod_string_37 (post : Int32 → MS → Prop) (x1 : Int32) (x2 : Int32) (x3 : Int32) (σ : MS) : Prop :=
 L_Mod_string_38 post x1 x2 x3 1 σ
def wp_Mod_string (a1 : Int32) (σ : MS) (post : Int32 → MS → Prop) : Prop :=
 wp_Mod_c a1 σ (fun r1 σ2 =>
 wp_Mod_c (a1 + 1) σ2 (fun r3 σ4 =>
 ((¬ r3 = r1 → L_Mod_string_37 post a1 (m_at σ) r1 σ4) ∧
 (r3 = r1 → wp_Mod_c (a1 + 2) σ4 (fun r5 σ6 =>
 ((¬ r5 = r1 → L_Mod_string_37 post a1 (m_at σ) r1 σ6) ∧
 (r5 = r1 → L_Mod_string_38 post a1 (m_at σ) r1 3 σ6)))))))
def L_Mod_token_396 (post : Int32 → MS → Prop) (x2 : Int32) (x4 : Int32) (σ : MS) : Prop :=
 (vp_in x4 44 ∧
 wp_Str_length (msI (x4 : Int32).toNatClampNeg) σ (fun r40 σ41 =>
 (∀ σ42, σ42 = (m_at' σ41 ((m_at σ) + r40)) →
 wp_Mod_add (43 + x4) x2 (m_at σ42) σ42 (fun r43 σ44 =>
 (vB r43 ∧ post r43 σ44)))))
def L_Mod_token_379 (post : Int32 → MS → Prop) (x2 : Int32) (x4 : Int32) (σ : MS) : Prop :=
 (((m_depth σ) ≤ 0 → L_Mod_token_396 post x2 x4 σ) ∧
 (¬ ((m_depth σ) ≤ 0) → (∀ σ45, σ45 = (m_depth' σ ((m_depth σ) - 1)) →
 L_Mod_token_396 post x2 x4 σ45)))
def L_Mod_token_361 (post : Int32 → MS → Prop) (x1 : Int32) (x2 : Int32) (x4 : Int32) (σ : MS) : Prop :=
 ((x1 = 41 → L_Mod_token_379 post x2 x4 σ) ∧
 (¬ (x1 = 41) → ((x1 = 93 → L_Mod_token_379 post x2 x4 σ) ∧
 (¬ (x1 = 93) → ((¬ x1 = 125 → L_Mod_token_396 post x2 x4 σ) ∧
 (x1 = 125 → L_Mod_token_379 post x2 x4 σ))))))
def L_Mod_token_351 (post : Int32 → MS → Prop) (x1 : Int32) (x2 : Int32) (x4 : Int32) (σ : MS) : Prop :=
 (∀ σ46, σ46 = (m_depth' σ ((m_depth σ) + 1)) →
 L_Mod_token_361 post x1 x2 x4 σ46)
def L_Mod_token_316 (post : Int32 → MS → Prop) (k262 : Int32 → Int32 → Int32 → Int32 → MS → Prop) (x1 : Int32) (x2 : Int32) (x4 : Int32) (x5 : Int32) (σ : MS) : Prop :=
 k262 x1 x2 x4 (x5 + 1) σ
def L_Mod_token_312 (post : Int32 → MS → Prop) (k262 : Int32 → Int32 → Int32 → Int32 → MS → Prop) (x1 : Int32) (x2 : Int32) (x5 : Int32) (σ : MS) : Prop :=
 L_Mod_token_316 post k262 x1 x2 x5 x5 σ
def L_Mod_token_262 (post : Int32 → MS → Prop) : Nat → Int32 → Int32 → Int32 → Int32 → MS → Prop
  | 0, _, _, _, _, _ => False
  | n + 1, x1, x2, x4, x5, σ =>
    ((44 ≤ x5 → ((0 ≤ x4 → ((x1 = 40 → L_Mod_token_351 post x1 x2 x4 σ) ∧
     (¬ (x1 = 40) → ((x1 = 91 → L_Mod_token_351 post x1 x2 x4 σ) ∧
     (¬ (x1 = 91) → ((¬ x1 = 123 → L_Mod_token_361 post x1 x2 x4 σ) ∧
     (x1 = 123 → L_Mod_token_351 post x1 x2 x4 σ))))))) ∧
     (¬ (0 ≤ x4) → wp_Mod_bad x2 σ (fun r32 σ33 =>
     (vB r32 ∧ post r32 σ33))))) ∧
     (¬ (44 ≤ x5) → (vp_in x5 44 ∧
     wp_Mod_stands x2 (msI (x5 : Int32).toNatClampNeg) σ (fun r34 σ35 =>
     ((r34 = 0 → L_Mod_token_316 post (fun x1 x2 x4 x5 σ => L_Mod_token_262 post  n x1 x2 x4 x5 σ) x1 x2 x4 x5 σ35) ∧
     (¬ (r34 = 0) → ((x4 < 0 → L_Mod_token_312 post (fun x1 x2 x4 x5 σ => L_Mod_token_262 post  n x1 x2 x4 x5 σ) x1 x2 x5 σ35) ∧
     (¬ (x4 < 0) → (vp_in x5 44 ∧
     wp_Str_length (msI (x5 : Int32).toNatClampNeg) σ35 (fun r36 σ37 =>
     (vp_in x4 44 ∧
     wp_Str_length (msI (x4 : Int32).toNatClampNeg) σ37 (fun r38 σ39 =>
     ((r36 ≤ r38 → L_Mod_token_316 post (fun x1 x2 x4 x5 σ => L_Mod_token_262 post  n x1 x2 x4 x5 σ) x1 x2 x4 x5 σ39) ∧
     (¬ (r36 ≤ r38) → L_Mod_token_312 post (fun x1 x2 x4 x5 σ => L_Mod_token_262 post  n x1 x2 x4 x5 σ) x1 x2 x5 σ39))))))))))))))
def L_Mod_token_238 (post : Int32 → MS → Prop) (k190 : Int32 → Int32 → Int32 → MS → Prop) (x2 : Int32) (x4 : Int32) (x5 : Int32) (σ : MS) : Prop :=
 k190 x2 x4 (x5 + 1) σ
def L_Mod_token_190 (post : Int32 → MS → Prop) : Nat → Int32 → Int32 → Int32 → MS → Prop
  | 0, _, _, _, _ => False
  | n + 1, x2, x4, x5, σ =>
    ((35 ≤ x5 → wp_Mod_add x4 x2 (m_at σ) σ (fun r25 σ26 =>
     (vB r25 ∧ post r25 σ26))) ∧
     (¬ (35 ≤ x5) → (vp_in x5 35 ∧
     wp_Str_length (mwI (x5 : Int32).toNatClampNeg) σ (fun r27 σ28 =>
     ((¬ ((m_at σ) - x2) = r27 → L_Mod_token_238 post (fun x2 x4 x5 σ => L_Mod_token_190 post  n x2 x4 x5 σ) x2 x4 x5 σ28) ∧
     (((m_at σ) - x2) = r27 → (vp_in x5 35 ∧
     wp_Mod_stands x2 (mwI (x5 : Int32).toNatClampNeg) σ28 (fun r29 σ30 =>
     ((r29 = 0 → L_Mod_token_238 post (fun x2 x4 x5 σ => L_Mod_token_190 post  n x2 x4 x5 σ) x2 x4 x5 σ30) ∧
     (¬ (r29 = 0) → L_Mod_token_238 post (fun x2 x4 x5 σ => L_Mod_token_190 post  n x2 x4 x5 σ) x2 (8 + x5) x5 σ30))))))))))
def L_Mod_token_171 (post : Int32 → MS → Prop) (k143 : Int32 → MS → Prop) (x2 : Int32) (σ : MS) : Prop :=
 (∀ σ31, σ31 = (m_at' σ ((m_at σ) + 1)) →
 k143 x2 σ31)
def L_Mod_token_143 (post : Int32 → MS → Prop) : Nat → Int32 → MS → Prop
  | 0, _, _ => False
  | n + 1, x2, σ =>
    wp_Mod_c (m_at σ) σ (fun r17 σ18 =>
     wp_Mod_isLetter r17 σ18 (fun r19 σ20 =>
     ((¬ r19 = 0 → L_Mod_token_171 post (fun x2 σ => L_Mod_token_143 post  n x2 σ) x2 σ20) ∧
     (r19 = 0 → wp_Mod_c (m_at σ20) σ20 (fun r21 σ22 =>
     wp_Mod_isDigit r21 σ22 (fun r23 σ24 =>
     ((r23 = 0 → ∃ n, L_Mod_token_190 post n x2 4 0 σ24) ∧
     (¬ (r23 = 0) → L_Mod_token_171 post (fun x2 σ => L_Mod_token_143 post  n x2 σ) x2 σ24))))))))
def L_Mod_token_130 (post : Int32 → MS → Prop) (x3 : Int32) (σ : MS) : Prop :=
 wp_Mod_string x3 σ (fun r47 σ48 =>
 (vB r47 ∧ post r47 σ48))
def L_Mod_token_110 (post : Int32 → MS → Prop) (x1 : Int32) (x2 : Int32) (x3 : Int32) (σ : MS) : Prop :=
 wp_Mod_c x3 σ (fun r11 σ12 =>
 ((r11 = 39 → L_Mod_token_130 post x3 σ12) ∧
 (¬ (r11 = 39) → wp_Mod_c x3 σ12 (fun r13 σ14 =>
 ((¬ r13 = 34 → wp_Mod_isLetter x1 σ14 (fun r15 σ16 =>
 ((r15 = 0 → ∃ n, L_Mod_token_262 post n x1 x2 (-1) 0 σ16) ∧
 (¬ (r15 = 0) → ∃ n, L_Mod_token_143 post n x2 σ16)))) ∧
 (r13 = 34 → L_Mod_token_130 post x3 σ14))))))
def L_Mod_token_107 (post : Int32 → MS → Prop) (x1 : Int32) (x2 : Int32) (x3 : Int32) (σ : MS) : Prop :=
 L_Mod_token_110 post x1 x2 (x3 + 1) σ
def L_Mod_token_95 (post : Int32 → MS → Prop) (x1 : Int32) (x2 : Int32) (x3 : Int32) (σ : MS) : Prop :=
 ((x1 = 114 → L_Mod_token_107 post x1 x2 x3 σ) ∧
 (¬ (x1 = 114) → ((¬ x1 = 102 → L_Mod_token_110 post x1 x2 x3 σ) ∧
 (x1 = 102 → L_Mod_token_107 post x1 x2 x3 σ))))
def L_Mod_token_89 (post : Int32 → MS → Prop) (x1 : Int32) (x2 : Int32) (x3 : Int32) (σ : MS) : Prop :=
 L_Mod_token_110 post x1 x2 (x3 + 2) σ
def L_Mod_token_71 (post : Int32 → MS → Prop) (x1 : Int32) (x2 : Int32) (x3 : Int32) (σ : MS) : Prop :=
 ((¬ x1 = 102 → L_Mod_token_95 post x1 x2 x3 σ) ∧
 (x1 = 102 → wp_Mod_c (x3 + 1) σ (fun r49 σ50 =>
 ((¬ r49 = 114 → L_Mod_token_95 post x1 x2 x3 σ50) ∧
 (r49 = 114 → L_Mod_token_89 post x1 x2 x3 σ50)))))
def L_Mod_token_53 (post : Int32 → MS → Prop) (x1 : Int32) (x2 : Int32) (x3 : Int32) (σ : MS) : Prop :=
 ((¬ x1 = 114 → L_Mod_token_71 post x1 x2 x3 σ) ∧
 (x1 = 114 → wp_Mod_c (x3 + 1) σ (fun r9 σ10 =>
 ((r9 = 102 → L_Mod_token_89 post x1 x2 x3 σ10) ∧
 (¬ (r9 = 102) → L_Mod_token_71 post x1 x2 x3 σ10)))))
def L_Mod_token_48 (post : Int32 → MS → Prop) (σ : MS) : Prop :=
 wp_Mod_number σ (fun r51 σ52 =>
 (vB r51 ∧ post r51 σ52))
def wp_Mod_token (σ : MS) (post : Int32 → MS → Prop) : Prop :=
 wp_Mod_c (m_at σ) σ (fun r1 σ2 =>
 wp_Mod_isDigit r1 σ2 (fun r3 σ4 =>
 ((¬ r3 = 0 → L_Mod_token_48 post σ4) ∧
 (r3 = 0 → ((¬ r1 = 46 → L_Mod_token_53 post r1 (m_at σ2) (m_at σ2) σ4) ∧
 (r1 = 46 → wp_Mod_c ((m_at σ4) + 1) σ4 (fun r5 σ6 =>
 wp_Mod_isDigit r5 σ6 (fun r7 σ8 =>
 ((r7 = 0 → L_Mod_token_53 post r1 (m_at σ2) (m_at σ2) σ8) ∧
 (¬ (r7 = 0) → L_Mod_token_48 post σ8))))))))))
def L_Mod_line_245 (post : Int32 → MS → Prop) (k217 : MS → Prop) (σ : MS) : Prop :=
 wp_Mod_add 1 (m_at σ) (m_at σ) σ (fun r28 σ29 =>
 (∀ σ30, σ30 = (m_at' σ29 ((m_at σ29) + 1)) →
 post 1 σ30))
def L_Mod_line_217 (post : Int32 → MS → Prop) : Nat → MS → Prop
  | 0, _ => False
  | n + 1, σ =>
    wp_Mod_between σ (fun σ23 =>
     (((m_let σ23) ≤ (m_at σ23) → L_Mod_line_245 post (fun σ => L_Mod_line_217 post  n σ) σ23) ∧
     (¬ ((m_let σ23) ≤ (m_at σ23)) → wp_Mod_c (m_at σ23) σ23 (fun r24 σ25 =>
     ((¬ r24 = 10 → wp_Mod_token σ25 (fun r26 σ27 =>
     ((¬ r26 = 0 → (fun σ => L_Mod_line_217 post  n σ) σ27) ∧
     (r26 = 0 → post 0 σ27)))) ∧
     (r24 = 10 → L_Mod_line_245 post (fun σ => L_Mod_line_217 post  n σ) σ25))))))
def L_Mod_line_150 (post : Int32 → MS → Prop) : Nat → Int32 → MS → Prop
  | 0, _, _ => False
  | n + 1, x1, σ =>
    (vp_in (m_open σ) 4098 ∧
     (((m_ins σ ((m_open σ) : Int32).toNatClampNeg) ≤ x1 → (vp_in (m_open σ) 4098 ∧
     ((x1 = (m_ins σ ((m_open σ) : Int32).toNatClampNeg) → (∀ σ17, σ17 = (m_depth' σ 0) →
     ∃ n, L_Mod_line_217 post n σ17)) ∧
     (¬ (x1 = (m_ins σ ((m_open σ) : Int32).toNatClampNeg)) → wp_Mod_bad (m_at σ) σ (fun r18 σ19 =>
     (vB r18 ∧ post r18 σ19)))))) ∧
     (¬ ((m_ins σ ((m_open σ) : Int32).toNatClampNeg) ≤ x1) → (∀ σ20, σ20 = (m_open' σ ((m_open σ) - 1)) →
     wp_Mod_add 3 (m_at σ20) (m_at σ20) σ20 (fun r21 σ22 =>
     (fun x1 σ => L_Mod_line_150 post  n x1 σ) x1 σ22)))))
def L_Mod_line_52 (post : Int32 → MS → Prop) (x1 : Int32) (σ : MS) : Prop :=
 (((m_at σ) < (m_let σ) → wp_Mod_c (m_at σ) σ (fun r8 σ9 =>
 ((¬ r8 = 10 → (vp_in (m_open σ9) 4098 ∧
 ((x1 ≤ (m_ins σ9 ((m_open σ9) : Int32).toNatClampNeg) → ∃ n, L_Mod_line_150 post n x1 σ9) ∧
 (¬ (x1 ≤ (m_ins σ9 ((m_open σ9) : Int32).toNatClampNeg)) → ((¬ (m_many σ9) = 0 → (∀ σ10, σ10 = (m_open' σ9 ((m_open σ9) + 1)) →
 (vp_in ((m_open σ9) + 1) 4098 ∧
 (∀ σ11, σ11 = (m_ins' σ10 (upd (m_ins σ10) (((m_open σ9) + 1) : Int32).toNatClampNeg x1)) →
 wp_Mod_add 2 (m_at σ11) (m_at σ11) σ11 (fun r12 σ13 =>
 ∃ n, L_Mod_line_150 post n x1 σ13))))) ∧
 ((m_many σ9) = 0 → wp_Mod_bad (m_at σ9) σ9 (fun r14 σ15 =>
 (vB r14 ∧ post r14 σ15)))))))) ∧
 (r8 = 10 → (∀ σ16, σ16 = (m_at' σ9 ((m_at σ9) + 1)) →
 post 1 σ16))))) ∧
 (¬ ((m_at σ) < (m_let σ)) → post 1 σ))
def L_Mod_line_2 (post : Int32 → MS → Prop) : Nat → Int32 → MS → Prop
  | 0, _, _ => False
  | n + 1, x1, σ =>
    wp_Mod_c (m_at σ) σ (fun r1 σ2 =>
     ((¬ r1 = 32 → wp_Mod_joined σ2 (fun σ3 =>
     wp_Mod_c (m_at σ3) σ3 (fun r4 σ5 =>
     ((¬ r4 = 35 → L_Mod_line_52 post x1 σ5) ∧
     (r4 = 35 → wp_Mod_comment σ5 (fun σ6 =>
     L_Mod_line_52 post x1 σ6)))))) ∧
     (r1 = 32 → (∀ σ7, σ7 = (m_at' σ2 ((m_at σ2) + 1)) →
     (fun x1 σ => L_Mod_line_2 post  n x1 σ) (x1 + 1) σ7))))
def wp_Mod_line (σ : MS) (post : Int32 → MS → Prop) : Prop :=
 ∃ n, L_Mod_line_2 post n 0 σ
def L_Mod_scan_171 (post : Int32 → MS → Prop) : Nat → Int32 → Int32 → MS → Prop
  | 0, _, _, _ => False
  | n + 1, x1, x3, σ =>
    (((m_open σ) ≤ x3 → wp_Mod_add 0 x1 x1 σ (fun r16 σ17 =>
     post (m_many σ17) σ17)) ∧
     (¬ ((m_open σ) ≤ x3) → wp_Mod_add 3 x1 x1 σ (fun r18 σ19 =>
     (fun x1 x3 σ => L_Mod_scan_171 post  n x1 x3 σ) x1 (x3 + 1) σ19)))
def L_Mod_scan_165 (post : Int32 → MS → Prop) (x1 : Int32) (x2 : Int32) (σ : MS) : Prop :=
 ((x2 = 0 → (∀ σ14, σ14 = (m_many' σ 0) →
 (∀ σ15, σ15 = (m_err' σ14 2) →
 post 0 σ15))) ∧
 (¬ (x2 = 0) → ∃ n, L_Mod_scan_171 post n x1 0 σ))
def L_Mod_scan_145 (post : Int32 → MS → Prop) : Nat → Int32 → Int32 → MS → Prop
  | 0, _, _, _ => False
  | n + 1, x1, x2, σ =>
    ((x2 = 0 → L_Mod_scan_165 post x1 x2 σ) ∧
     (¬ (x2 = 0) → ((x1 ≤ (m_at σ) → L_Mod_scan_165 post x1 x2 σ) ∧
     (¬ (x1 ≤ (m_at σ)) → wp_Mod_line σ (fun r12 σ13 =>
     (fun x1 x2 σ => L_Mod_scan_145 post  n x1 x2 σ) x1 r12 σ13)))))
def L_Mod_scan_144 (post : Int32 → MS → Prop) (x1 : Int32) (s0 : Int32) (σ : MS) : Prop :=
 ∃ n, L_Mod_scan_145 post n x1 s0 σ
def L_Mod_scan_109 (post : Int32 → MS → Prop) (k53 : Int32 → Int32 → MS → Prop) (x1 : Int32) (x2 : Int32) (σ : MS) : Prop :=
 k53 x1 (x2 + 1) σ
def L_Mod_scan_103 (post : Int32 → MS → Prop) (k53 : Int32 → Int32 → MS → Prop) (x1 : Int32) (x2 : Int32) (σ : MS) : Prop :=
 wp_Mod_bad x2 σ (fun r10 σ11 =>
 L_Mod_scan_109 post k53 x1 x2 σ11)
def L_Mod_scan_53 (post : Int32 → MS → Prop) : Nat → Int32 → Int32 → MS → Prop
  | 0, _, _, _ => False
  | n + 1, x1, x2, σ =>
    ((x1 ≤ x2 → (∀ σ6, σ6 = (m_at' σ 0) →
     (∀ σ7, σ7 = (m_open' σ6 0) →
     (vp_in 0 4098 ∧
     (∀ σ8, σ8 = (m_ins' σ7 (upd (m_ins σ7) (0 : Int32).toNatClampNeg 0)) →
     ((0 ≤ (m_wrong σ8) → L_Mod_scan_144 post x1 0 σ8) ∧
     (¬ (0 ≤ (m_wrong σ8)) → L_Mod_scan_144 post x1 1 σ8))))))) ∧
     (¬ (x1 ≤ x2) → (vp_in x2 4100 ∧
     (vp_in x2 4100 ∧
     (∀ σ9, σ9 = (m_tx' σ (upd (m_tx σ) (x2 : Int32).toNatClampNeg (m_oc σ (x2 : Int32).toNatClampNeg))) →
     (vp_in x2 4100 ∧
     (((m_tx σ9 (x2 : Int32).toNatClampNeg) = 10 → L_Mod_scan_109 post (fun x1 x2 σ => L_Mod_scan_53 post  n x1 x2 σ) x1 x2 σ9) ∧
     (¬ ((m_tx σ9 (x2 : Int32).toNatClampNeg) = 10) → (vp_in x2 4100 ∧
     (((m_tx σ9 (x2 : Int32).toNatClampNeg) < 32 → L_Mod_scan_103 post (fun x1 x2 σ => L_Mod_scan_53 post  n x1 x2 σ) x1 x2 σ9) ∧
     (¬ ((m_tx σ9 (x2 : Int32).toNatClampNeg) < 32) → (vp_in x2 4100 ∧
     (((m_tx σ9 (x2 : Int32).toNatClampNeg) ≤ 126 → L_Mod_scan_109 post (fun x1 x2 σ => L_Mod_scan_53 post  n x1 x2 σ) x1 x2 σ9) ∧
     (¬ ((m_tx σ9 (x2 : Int32).toNatClampNeg) ≤ 126) → L_Mod_scan_103 post (fun x1 x2 σ => L_Mod_scan_53 post  n x1 x2 σ) x1 x2 σ9))))))))))))))
def L_Mod_scan_24 (post : Int32 → MS → Prop) (σ : MS) : Prop :=
 (∀ σ20, σ20 = (m_err' σ 1) →
 post 0 σ20)
def wp_Mod_scan (a1 : Int32) (σ : MS) (post : Int32 → MS → Prop) : Prop :=
 (∀ σ1, σ1 = (m_err' σ 0) →
 ((a1 < 0 → L_Mod_scan_24 post σ1) ∧
 (¬ (a1 < 0) → ((4096 < a1 → L_Mod_scan_24 post σ1) ∧
 (¬ (4096 < a1) → ((a1 ≤ (m_fed σ1) → (∀ σ2, σ2 = (m_fed' σ1 0) →
 (∀ σ3, σ3 = (m_many' σ2 0) →
 (∀ σ4, σ4 = (m_wrong' σ3 (-1)) →
 (∀ σ5, σ5 = (m_let' σ4 a1) →
 ∃ n, L_Mod_scan_53 post n a1 0 σ5))))) ∧
 (¬ (a1 ≤ (m_fed σ1)) → L_Mod_scan_24 post σ1)))))))
def wp_Mod_wrong (σ : MS) (post : Int32 → MS → Prop) : Prop :=
 (∀ σ1, σ1 = (m_err' σ 0) →
 post (m_wrong σ1) σ1)
def L_Mod_tokenAt_119 (post : Int32 → MS → Prop) (k84 : Int32 → Int32 → Int32 → MS → Prop) (x1 : Int32) (x3 : Int32) (x4 : Int32) (σ : MS) : Prop :=
 k84 x1 x3 (x4 + 1) σ
def L_Mod_tokenAt_84 (post : Int32 → MS → Prop) : Nat → Int32 → Int32 → Int32 → MS → Prop
  | 0, _, _, _, _ => False
  | n + 1, x1, x3, x4, σ =>
    (vp_in x1 9000 ∧
     (((m_fr σ (x1 : Int32).toNatClampNeg) ≤ x4 → post x3 σ) ∧
     (¬ ((m_fr σ (x1 : Int32).toNatClampNeg) ≤ x4) → (((m_let σ) ≤ x4 → post x3 σ) ∧
     (¬ ((m_let σ) ≤ x4) → (vp_in x4 4100 ∧
     ((¬ (m_tx σ (x4 : Int32).toNatClampNeg) = 10 → L_Mod_tokenAt_119 post (fun x1 x3 x4 σ => L_Mod_tokenAt_84 post  n x1 x3 x4 σ) x1 x3 x4 σ) ∧
     ((m_tx σ (x4 : Int32).toNatClampNeg) = 10 → L_Mod_tokenAt_119 post (fun x1 x3 x4 σ => L_Mod_tokenAt_84 post  n x1 x3 x4 σ) x1 (x3 + 1) x4 σ))))))))
def L_Mod_tokenAt_33 (post : Int32 → MS → Prop) (σ : MS) : Prop :=
 (∀ σ2, σ2 = (m_err' σ 2) →
 post 0 σ2)
def L_Mod_tokenAt_14 (post : Int32 → MS → Prop) (σ : MS) : Prop :=
 (∀ σ3, σ3 = (m_err' σ 1) →
 post 0 σ3)
def wp_Mod_tokenAt (a1 : Int32) (a2 : Int32) (σ : MS) (post : Int32 → MS → Prop) : Prop :=
 (∀ σ1, σ1 = (m_err' σ 0) →
 ((a2 < 0 → L_Mod_tokenAt_14 post σ1) ∧
 (¬ (a2 < 0) → ((a2 ≤ 3 → ((a1 < 0 → L_Mod_tokenAt_33 post σ1) ∧
 (¬ (a1 < 0) → ((a1 < (m_many σ1) → ((3 ≤ a2 → ∃ n, L_Mod_tokenAt_84 post n a1 1 0 σ1) ∧
 (¬ (3 ≤ a2) → ((¬ a2 = 0 → ((¬ a2 = 1 → (vp_in a1 9000 ∧
 post (m_to σ1 (a1 : Int32).toNatClampNeg) σ1)) ∧
 (a2 = 1 → (vp_in a1 9000 ∧
 post (m_fr σ1 (a1 : Int32).toNatClampNeg) σ1)))) ∧
 (a2 = 0 → (vp_in a1 9000 ∧
 post (m_kd σ1 (a1 : Int32).toNatClampNeg) σ1)))))) ∧
 (¬ (a1 < (m_many σ1)) → L_Mod_tokenAt_33 post σ1))))) ∧
 (¬ (a2 ≤ 3) → L_Mod_tokenAt_14 post σ1)))))
def wp_Mod_many (σ : MS) (post : Int32 → MS → Prop) : Prop :=
 (∀ σ1, σ1 = (m_err' σ 0) →
 post (m_many σ1) σ1)
