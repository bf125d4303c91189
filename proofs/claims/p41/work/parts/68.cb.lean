section
theorem sX11_mourners  {M : Mem} {Q : Int → Mem → Prop} (hI : IX M) (hQ : ∀ z : Int, ∀ M' : Mem, IX M' → Q z M') : qX11_mourners M Q := by
  unfold qX11_mourners
  refine sX9_isEmpty  hI  ?_
  intro x1_302 q303 q304
  refine ⟨fun c => ?_, fun c => ?_⟩
  · refine sX11_readLines (p1 := 0) hI  ?_
    intro x3_306 M3_307 hM3_307 q308
    unfold qX11_mourners_J19
    refine sX9_clear  hM3_307  ?_
    intro M4_309 hM4_309 gM4_309
    refine ⟨(by first | assumption | exact (by omega)), ?_⟩
    exact hQ _ _ hM4_309
  · unfold qX11_mourners_J19
    refine sX9_clear  hI  ?_
    intro M4_311 hM4_311 gM4_311
    refine ⟨(by first | assumption | exact (by omega)), ?_⟩
    exact hQ _ _ hM4_311
theorem sX11_weatherFault_L2  {X48 : Mem → Prop} {Q : Int → Mem → Prop} {M0 : Mem} (hQ : ∀ z : Int, (-1 ≤ z ∧ z ≤ 80 ∧ (z = -1 → M0 156 1 ≤ 20)) → Q z M0) (hX48 : (M0 156 1 ≤ 20) → X48 M0) : ∀ (n : Nat) (v1 : Int), IX M0 → (0 ≤ v1 ∧ v1 ≤ 20) → 20 - v1 < (n : Int) → qX11_weatherFault_L2 X48 Q n v1 M0 := by
  intro n
  induction n with
  | zero => intro v1 hI hv hm; exact absurd hm (by omega)
  | succ n ih =>
    intro v1 hI hv hm
    rw [qX11_weatherFault_L2]
    intro x1_312 ex1_312 rx1_312
    have bx1_312 : 0 ≤ x1_312 ∧ x1_312 ≤ 80 := by rw [ex1_312]; exact (bx_c156_1).mp (hI.bx _ _)
    refine ⟨(by first | assumption | exact (by omega)), ?_⟩
    refine ⟨fun c => ?_, fun c => ?_⟩
    · exact hX48 (by omega)
    · refine sX9_signAt (p1 := v1) hI  ?_
      intro x4_315 p316 q317
      refine ⟨fun c => ?_, fun c => ?_⟩
      · exact hQ _ (by omega)
      · refine ⟨fun c => ?_, fun c => ?_⟩
        · exact hQ _ (by omega)
        · refine ⟨fun c => ?_, fun c => ?_⟩
          · exact ih _ hI (by omega) (by omega)
          · exact hQ _ (by omega)
theorem sX11_weatherFault  {M : Mem} {Q : Int → Mem → Prop} (hI : IX M) (hQ : ∀ z : Int, (-1 ≤ z ∧ z ≤ 80 ∧ (z = -1 → M 156 1 ≤ 20)) → Q z M) : qX11_weatherFault M Q := by
  unfold qX11_weatherFault
  refine ⟨21, ?_⟩
  refine sX11_weatherFault_L2 ?_ ?_ _ _ hI (by omega) (by omega)
  · exact hQ
  · intro p324
    refine sX9_isEmpty  hI  ?_
    intro x9_325 q326 q327
    refine ⟨fun c => ?_, fun c => ?_⟩
    · exact hQ _ (by omega)
    · exact hQ _ (by omega)
theorem sX8_takeWeather_L10   {Q : Mem → Prop} (hQ : ∀ M' : Mem, IX M' → Q M') : ∀ (n : Nat) (v2 : Int) (M : Mem), IX M → (0 ≤ v2 ∧ v2 ≤ 20) → 20 - v2 < (n : Int) → qX8_takeWeather_L10 Q n v2 M := by
  intro n
  induction n with
  | zero => intro v2 M hI hv hm; exact absurd hm (by omega)
  | succ n ih =>
    intro v2 M hI hv hm
    rw [qX8_takeWeather_L10]
    intro x3_330 ex3_330 rx3_330
    have bx3_330 : 0 ≤ x3_330 ∧ x3_330 ≤ 20 := by rw [ex3_330]; exact (bx_c158_3).mp (hI.bx _ _)
    refine ⟨(by first | assumption | exact (by omega)), ?_⟩
    refine ⟨fun c => ?_, fun c => ?_⟩
    · exact hQ _ hI
    · refine sX9_signAt (p1 := v2) hI  ?_
      intro x6_333 p334 q335
      refine ⟨by omega, ?_⟩
      refine ⟨by omega, ?_⟩
      refine ⟨(by first | assumption | exact (by omega)), ?_⟩
      intro M10_336 h_M10_336
      have hM10_336 : IX M10_336 := by rw [h_M10_336]; exact hI.up (by decide) (by simp [BX])
      exact ih _ _ hM10_336 (by omega) (by omega)
theorem sX8_takeWeather  {M : Mem} {Q : Mem → Prop} (hI : IX M) (hp : M 156 1 ≤ 20) (hQ : ∀ M' : Mem, IX M' → Q M') : qX8_takeWeather M Q := by
  unfold qX8_takeWeather
  intro x1_337 ex1_337 rx1_337
  have bx1_337 : 0 ≤ x1_337 ∧ x1_337 ≤ 80 := by rw [ex1_337]; exact (bx_c156_1).mp (hI.bx _ _)
  intro M2_338 h_M2_338
  have hM2_338 : IX M2_338 := by rw [h_M2_338]; exact hI.up (by decide) ((bx_c158_3).mpr (by omega))
  refine ⟨21, ?_⟩
  refine sX8_takeWeather_L10 ?_ _ _ _ hM2_338 (by omega) (by omega)
  · exact hQ
theorem sX11_weather  {M : Mem} {Q : Int → Mem → Prop} (hI : IX M) (hQ : ∀ z : Int, ∀ M' : Mem, IX M' → Q z M') : qX11_weather M Q := by
  unfold qX11_weather
  refine sX11_weatherFault  hI  ?_
  intro x1_339 p340 q341
  intro x2_342 ex2_342 rx2_342
  have bx2_342 : 0 ≤ x2_342 ∧ x2_342 ≤ 80 := by rw [ex2_342]; exact (bx_c156_1).mp (hI.bx _ _)
  refine ⟨fun c => ?_, fun c => ?_⟩
  · unfold qX11_weather_J29
    refine sX9_clear  hI  ?_
    intro M4_344 hM4_344 gM4_344
    refine ⟨(by first | assumption | exact (by omega)), ?_⟩
    refine ⟨fun c => ?_, fun c => ?_⟩
    · refine ⟨(by first | assumption | exact (by omega)), ?_⟩
      exact hQ _ _ hM4_344
    · refine ⟨(by first | assumption | exact (by omega)), ?_⟩
      exact hQ _ _ hM4_344
  · refine sX8_takeWeather  hI (by omega) ?_
    intro M9_348 hM9_348
    unfold qX11_weather_J29
    refine sX9_clear  hM9_348  ?_
    intro M4_349 hM4_349 gM4_349
    refine ⟨(by first | assumption | exact (by omega)), ?_⟩
    refine ⟨fun c => ?_, fun c => ?_⟩
    · refine ⟨(by first | assumption | exact (by omega)), ?_⟩
      exact hQ _ _ hM4_349
    · refine ⟨(by first | assumption | exact (by omega)), ?_⟩
      exact hQ _ _ hM4_349
theorem sX5_bindingOf {p0 : Int} {M : Mem} {Q : Int → Mem → Prop} (hI : IX M) (hQ : ∀ z : Int, (0 ≤ z ∧ z ≤ 4 ∧ (1 ≤ z → ¬ p0 = 40 ∧ ¬ p0 = 301)) → Q z M) : qX5_bindingOf p0 M Q := by
  unfold qX5_bindingOf
  refine ⟨fun c => ?_, fun c => ?_, fun c => ?_, fun c => ?_, fun c => ?_, fun c => ?_, fun c => ?_, fun c => ?_, fun c => ?_⟩
  · exact hQ _ (by omega)
  · exact hQ _ (by omega)
  · exact hQ _ (by omega)
  · exact hQ _ (by omega)
  · exact hQ _ (by omega)
  · exact hQ _ (by omega)
  · exact hQ _ (by omega)
  · exact hQ _ (by omega)
  · exact hQ _ (by omega)
theorem sX5_latestBinding  {M : Mem} {Q : Int → Mem → Prop} (hI : IX M) (hQ : ∀ z : Int, Q z M) : qX5_latestBinding M Q := by
  unfold qX5_latestBinding
  intro x1_361 ex1_361 rx1_361
  have bx1_361 : 0 ≤ x1_361 ∧ x1_361 ≤ 40 := by rw [ex1_361]; exact (bx_c185_1).mp (hI.bx _ _)
  refine ⟨fun c => ?_, fun c => ?_⟩
  · exact hQ _
  · intro x3_364 ex3_364 rx3_364
    have bx3_364 : 0 ≤ x3_364 ∧ x3_364 ≤ 40 := by rw [ex3_364]; exact (bx_c185_1).mp (hI.bx _ _)
    refine ⟨by omega, ?_⟩
    refine ⟨by omega, ?_⟩
    intro x6_365 ex6_365 rx6_365
    have bx6_365 : -2147483648 ≤ x6_365 ∧ x6_365 ≤ 2147483647 := rx6_365
    refine sX5_bindingOf (p0 := x6_365) hI  ?_
    intro x7_366 p367 q368
    exact hQ _
theorem sX9_isRead  {M : Mem} {Q : Int → Mem → Prop} (hI : IX M) (hQ : ∀ z : Int, Q z M) : qX9_isRead M Q := by
  unfold qX9_isRead
  intro x1_369 ex1_369 rx1_369
  have bx1_369 : 0 ≤ x1_369 ∧ x1_369 ≤ 80 := by rw [ex1_369]; exact (bx_c156_2).mp (hI.bx _ _)
  intro x2_370 ex2_370 rx2_370
  have bx2_370 : 0 ≤ x2_370 ∧ x2_370 ≤ 80 := by rw [ex2_370]; exact (bx_c156_3).mp (hI.bx _ _)
  refine ⟨fun c => ?_, fun c => ?_⟩
  · exact hQ _
  · exact hQ _
theorem sX8_putOnStreet {p1 : Int} {M : Mem} {Q : Int → Mem → Prop} (hI : IX M) (hQ : ∀ z : Int, (0 ≤ z ∧ z ≤ 29) → Q z M) : qX8_putOnStreet p1 M Q := by
  unfold qX8_putOnStreet
  refine sX8_gate  hI  ?_
  intro x1_373 p374 q375
  refine ⟨(by first | assumption | exact (by omega)), ?_⟩
  intro x3_376 ex3_376 rx3_376
  intro x4_377 ex4_377 rx4_377
  exact hQ _ (by omega)
theorem sX11_cellOfEntry {p1 : Int} {p2 : Int} {M : Mem} {Q : Int → Mem → Prop} (hI : IX M) (hp : -2147483648 ≤ p2 ∧ p2 ≤ 2147483647) (hQ : ∀ z : Int, (0 ≤ z ∧ z ≤ 29) → Q z M) : qX11_cellOfEntry p1 p2 M Q := by
  unfold qX11_cellOfEntry
  refine ⟨fun c => ?_, fun c => ?_⟩
  · refine ⟨fun c => ?_, fun c => ?_⟩
    · unfold qX11_cellOfEntry_J20
      refine ⟨(by first | assumption | exact (by omega)), ?_⟩
      refine sX8_putOnStreet (p1 := p2) hI  ?_
      intro x4_380 p381 q382
      exact hQ _ (by omega)
    · intro x5_384 ex5_384 rx5_384
      unfold qX11_cellOfEntry_J20
      refine ⟨(by first | assumption | exact (by omega)), ?_⟩
      refine sX8_putOnStreet (p1 := x5_384) hI  ?_
      intro x4_385 p386 q387
      exact hQ _ (by omega)
  · intro x6_389 ex6_389 rx6_389
    unfold qX11_cellOfEntry_J20
    refine ⟨(by first | assumption | exact (by omega)), ?_⟩
    refine sX8_putOnStreet (p1 := x6_389) hI  ?_
    intro x4_390 p391 q392
    exact hQ _ (by omega)
theorem sX6_hasEnded {k0 : Nat} {p1 : Int} {M : Mem} {Q : Int → Mem → Prop} (hI : IX M) (hk0 : isS k0) (hp : 0 ≤ p1 ∧ p1 ≤ 7) (hQ : ∀ z : Int, Q z M) : qX6_hasEnded k0 p1 M Q := by
  unfold qX6_hasEnded
  have ek0 : 0 < k0 ∧ k0 < 155 ∧ (k0 - 1) % 7 = 0 := hk0
  refine ⟨by omega, ?_⟩
  refine ⟨by omega, ?_⟩
  intro x3_393 ex3_393 rx3_393
  have bx3_393 : -2147483648 ≤ x3_393 ∧ x3_393 ≤ 2147483647 := rx3_393
  refine ⟨fun c => ?_, fun c => ?_⟩
  · exact hQ _
  · exact hQ _
theorem sX11_sheet_L47 {p1 : Int} {p2 : Int} {p3 : Int} {p4 : Int} {X125 : Int → Mem → Prop} {Q : Int → Mem → Prop} (hQ : ∀ z : Int, ∀ M' : Mem, IX M' → Q z M') (hX125 : ∀ w1 : Int, ∀ M' : Mem, IX M' → iR w1 → X125 w1 M') : ∀ (n : Nat) (v5 v6 v7 : Int) (M : Mem), IX M → (0 ≤ v7 ∧ v7 ≤ 8) → iR v5 → iR v6 → 8 - v7 < (n : Int) → qX11_sheet_L47 p1 p2 p3 p4 X125 Q n v5 v6 v7 M := by
  intro n
  induction n with
  | zero => intro v5 v6 v7 M hI hv hrv5 hrv6 hm; exact absurd hm (by omega)
  | succ n ih =>
    intro v5 v6 v7 M hI hv hrv5 hrv6 hm
    rw [qX11_sheet_L47]
    intro x6_396 ex6_396 rx6_396
    have bx6_396 : 0 ≤ x6_396 ∧ x6_396 ≤ 8 := by rw [ex6_396]; exact (bx_s0_7 (show isS 1 by decide)).mp (hI.bx _ _)
    refine ⟨(by first | assumption | exact (by omega)), ?_⟩
    refine ⟨fun c => ?_, fun c => ?_⟩
    · exact hX125 _ _ hI (by first | assumption | exact (by omega))
    · refine sX6_hasEnded (p1 := v7) hI (show isS 1 by decide) (by omega) ?_
      intro x9_399 q400 q401
      refine ⟨fun c => ?_, fun c => ?_⟩
      · unfold qX11_sheet_J104
        refine ⟨by omega, ?_⟩
        refine ⟨by omega, ?_⟩
        intro x13_403 ex13_403 rx13_403
        have bx13_403 : -1 ≤ x13_403 ∧ x13_403 ≤ 29 := by rw [ex13_403]; exact (bx_s3 (show isS 1 by decide)).mp (hI.bx _ _)
        intro x14_404 ex14_404 rx14_404
        first | (have fx14_404 : x14_404 = v6 + x13_403 := by rw [ex14_404]; exact w32_id (by omega)) | skip
        exact ih _ _ _ _ hI (by omega) (by first | assumption | exact (by omega)) (by first | assumption | exact (by omega)) (by omega)
      · refine ⟨(by first | assumption | exact (by omega)), ?_⟩
        refine ⟨fun c => ?_, fun c => ?_⟩
        · unfold qX11_sheet_J103
          refine ⟨by omega, ?_⟩
          refine ⟨by omega, ?_⟩
          refine ⟨(by first | assumption | exact (by omega)), ?_⟩
          intro M20_407 h_M20_407
          have hM20_407 : IX M20_407 := by rw [h_M20_407]; exact hI.up (isS.nsp (show isS 1 by decide) 3 (by decide)) ((bx_s3 (show isS 1 by decide)).mpr (by omega))
          unfold qX11_sheet_J104
          refine ⟨by omega, ?_⟩
          refine ⟨by omega, ?_⟩
          intro x13_408 ex13_408 rx13_408
          have bx13_408 : -1 ≤ x13_408 ∧ x13_408 ≤ 29 := by rw [ex13_408]; exact (bx_s3 (show isS 1 by decide)).mp (hM20_407.bx _ _)
          have fx13_408 : x13_408 = 0 := by rw [ex13_408, h_M20_407, up2_s]
          intro x14_409 ex14_409 rx14_409
          first | (have fx14_409 : x14_409 = v6 + x13_408 := by rw [ex14_409]; exact w32_id (by omega)) | skip
          exact ih _ _ _ _ hM20_407 (by omega) (by first | assumption | exact (by omega)) (by first | assumption | exact (by omega)) (by omega)
        · intro x21_411 ex21_411 rx21_411
          first | (have fx21_411 : x21_411 = v7 * p4 := by rw [ex21_411]; exact w32_id (by omega)) | skip
          intro x22_412 ex22_412 rx22_412
          first | (have fx22_412 : x22_412 = p3 + x21_411 := by rw [ex22_412]; exact w32_id (by omega)) | skip
          refine sX11_cellOfEntry (p1 := p1) (p2 := x22_412) hI (by omega) ?_
          intro x23_413 p414 q415
          unfold qX11_sheet_J103
          refine ⟨by omega, ?_⟩
          refine ⟨by omega, ?_⟩
          refine ⟨(by first | assumption | exact (by omega)), ?_⟩
          intro M20_416 h_M20_416
          have hM20_416 : IX M20_416 := by rw [h_M20_416]; exact hI.up (isS.nsp (show isS 1 by decide) 3 (by decide)) ((bx_s3 (show isS 1 by decide)).mpr (by omega))
          unfold qX11_sheet_J104
          refine ⟨by omega, ?_⟩
          refine ⟨by omega, ?_⟩
          intro x13_417 ex13_417 rx13_417
          have bx13_417 : -1 ≤ x13_417 ∧ x13_417 ≤ 29 := by rw [ex13_417]; exact (bx_s3 (show isS 1 by decide)).mp (hM20_416.bx _ _)
          have fx13_417 : x13_417 = x23_413 := by rw [ex13_417, h_M20_416, up2_s]
          intro x14_418 ex14_418 rx14_418
          first | (have fx14_418 : x14_418 = v6 + x13_417 := by rw [ex14_418]; exact w32_id (by omega)) | skip
          exact ih _ _ _ _ hM20_416 (by omega) (by first | assumption | exact (by omega)) (by first | assumption | exact (by omega)) (by omega)
theorem sX11_sheet {p1 : Int} {p2 : Int} {p3 : Int} {p4 : Int} {M : Mem} {Q : Int → Mem → Prop} (hI : IX M) (hQ : ∀ z : Int, ∀ M' : Mem, IX M' → Q z M') : qX11_sheet p1 p2 p3 p4 M Q := by
  unfold qX11_sheet
  refine ⟨fun c => ?_, fun c => ?_⟩
  · exact hQ _ _ hI
  · refine ⟨fun c => ?_, fun c => ?_⟩
    · exact hQ _ _ hI
    · refine ⟨fun c => ?_, fun c => ?_⟩
      · refine ⟨fun c => ?_, fun c => ?_⟩
        · unfold qX11_sheet_J29
          refine ⟨fun c => ?_, fun c => ?_⟩
          · refine ⟨9, ?_⟩
            refine sX11_sheet_L47 ?_ ?_ _ _ _ _ _ hI (by omega) (by first | assumption | exact (by omega)) (by first | assumption | exact (by omega)) (by omega)
            · exact hQ
            · intro v6_426 M_427 hM_427 r428
              refine ⟨fun c => ?_, fun c => ?_⟩
              · refine ⟨(by first | assumption | exact (by omega)), ?_⟩
                exact hQ _ _ hM_427
              · exact hQ _ _ hM_427
          · refine ⟨9, ?_⟩
            refine sX11_sheet_L47 ?_ ?_ _ _ _ _ _ hI (by omega) (by first | assumption | exact (by omega)) (by first | assumption | exact (by omega)) (by omega)
            · exact hQ
            · intro v6_432 M_433 hM_433 r434
              refine ⟨fun c => ?_, fun c => ?_⟩
              · refine ⟨(by first | assumption | exact (by omega)), ?_⟩
                exact hQ _ _ hM_433
              · exact hQ _ _ hM_433
        · refine ⟨fun c => ?_, fun c => ?_⟩
          · unfold qX11_sheet_J29
            refine ⟨fun c => ?_, fun c => ?_⟩
            · refine ⟨9, ?_⟩
              refine sX11_sheet_L47 ?_ ?_ _ _ _ _ _ hI (by omega) (by first | assumption | exact (by omega)) (by first | assumption | exact (by omega)) (by omega)
              · exact hQ
              · intro v6_440 M_441 hM_441 r442
                refine ⟨fun c => ?_, fun c => ?_⟩
                · refine ⟨(by first | assumption | exact (by omega)), ?_⟩
                  exact hQ _ _ hM_441
                · exact hQ _ _ hM_441
            · refine ⟨9, ?_⟩
              refine sX11_sheet_L47 ?_ ?_ _ _ _ _ _ hI (by omega) (by first | assumption | exact (by omega)) (by first | assumption | exact (by omega)) (by omega)
              · exact hQ
              · intro v6_446 M_447 hM_447 r448
                refine ⟨fun c => ?_, fun c => ?_⟩
                · refine ⟨(by first | assumption | exact (by omega)), ?_⟩
                  exact hQ _ _ hM_447
                · exact hQ _ _ hM_447
          · exact hQ _ _ hI
      · exact hQ _ _ hI
theorem sX10_goal_L15 {p1 : Int} {p2 : Int} {p3 : Int}  {Q : Int → Mem → Prop} {M0 : Mem} (hp : 0 ≤ p2 ∧ p2 ≤ 29 ∧ 0 ≤ p3 ∧ p3 ≤ 3) (hQ : ∀ z : Int, (z = -1 ∨ p2 < z ∧ z ≤ 29) → Q z M0) : ∀ (n : Nat) (v4 : Int), IX M0 → (-1 ≤ v4 ∧ v4 ≤ 29) → v4 + 1 < (n : Int) → qX10_goal_L15 p1 p2 p3 Q n v4 M0 := by
  intro n
  induction n with
  | zero => intro v4 hI hv hm; exact absurd hm (by omega)
  | succ n ih =>
    intro v4 hI hv hm
    rw [qX10_goal_L15]
    refine ⟨(by first | assumption | exact (by omega)), ?_⟩
    refine ⟨fun c => ?_, fun c => ?_⟩
    · exact hQ _ (by omega)
    · intro x6_455 ex6_455 rx6_455
      intro x7_456 ex7_456 rx7_456
      first | (have fx7_456 := slI_1 (b := p2) (by omega); rw [← ex7_456] at fx7_456) | skip
      intro x8_457 ex8_457 rx8_457
      first | (have fx8_457 := slI_1 (b := v4) (by omega); rw [← ex8_457] at fx8_457) | skip
      intro x9_458 ex9_458 rx9_458
      intro x10_459 ex10_459 rx10_459
      intro x11_460 ex11_460 rx11_460
      have fx11_460 := aI_1 x10_459; rw [← ex11_460] at fx11_460
      refine ⟨fun c => ?_, fun c => ?_⟩
      · unfold qX10_goal_J55
        refine ⟨(by first | assumption | exact (by omega)), ?_⟩
        refine ⟨fun c => ?_, fun c => ?_⟩
        · exact ih _ hI (by omega) (by omega)
        · intro x15_464 ex15_464 rx15_464
          refine ⟨fun c => ?_, fun c => ?_⟩
          · refine ⟨(by first | assumption | exact (by omega)), ?_⟩
            exact hQ _ (by omega)
          · intro x18_467 ex18_467 rx18_467
            have bx18_467 : -2147483648 ≤ x18_467 ∧ x18_467 ≤ 2147483647 := rx18_467
            intro x19_468 ex19_468 rx19_468
            refine ⟨fun c => ?_, fun c => ?_⟩
            · exact ih _ hI (by omega) (by omega)
            · refine ⟨(by first | assumption | exact (by omega)), ?_⟩
              exact hQ _ (by omega)
      · unfold qX10_goal_J55
        refine ⟨(by first | assumption | exact (by omega)), ?_⟩
        refine ⟨fun c => ?_, fun c => ?_⟩
        · exact ih _ hI (by omega) (by omega)
        · intro x15_474 ex15_474 rx15_474
          refine ⟨fun c => ?_, fun c => ?_⟩
          · refine ⟨(by first | assumption | exact (by omega)), ?_⟩
            exact hQ _ (by omega)
          · intro x18_477 ex18_477 rx18_477
            have bx18_477 : -2147483648 ≤ x18_477 ∧ x18_477 ≤ 2147483647 := rx18_477
            intro x19_478 ex19_478 rx19_478
            refine ⟨fun c => ?_, fun c => ?_⟩
            · exact ih _ hI (by omega) (by omega)
            · refine ⟨(by first | assumption | exact (by omega)), ?_⟩
              exact hQ _ (by omega)
theorem sX10_goal {p1 : Int} {p2 : Int} {p3 : Int} {M : Mem} {Q : Int → Mem → Prop} (hI : IX M) (hp : 0 ≤ p2 ∧ p2 ≤ 29 ∧ 0 ≤ p3 ∧ p3 ≤ 3) (hQ : ∀ z : Int, (z = -1 ∨ p2 < z ∧ z ≤ 29) → Q z M) : qX10_goal p1 p2 p3 M Q := by
  unfold qX10_goal
  refine sX8_gate  hI  ?_
  intro x1_481 p482 q483
  refine ⟨(by first | assumption | exact (by omega)), ?_⟩
  intro x3_484 ex3_484 rx3_484
  refine ⟨31, ?_⟩
  refine sX10_goal_L15 hp ?_ _ _ hI (by omega) (by omega)
  · exact hQ
theorem sJ6_bitCount_0f7a4 {p0 : Int} {M : Mem} {Q : Int → Mem → Prop} (hI : IX M) (hQ : ∀ z : Int, (0 ≤ z ∧ z ≤ 63) → Q z M) : qJ6_bitCount_0f7a4 p0 M Q := by
  unfold qJ6_bitCount_0f7a4
  intro x1_485 ex1_485 rx1_485
  intro x2_486 ex2_486 rx2_486
  intro x3_487 ex3_487 rx3_487
  intro x4_488 ex4_488 rx4_488
  intro x5_489 ex5_489 rx5_489
  intro x6_490 ex6_490 rx6_490
  intro x7_491 ex7_491 rx7_491
  intro x8_492 ex8_492 rx8_492
  intro x9_493 ex9_493 rx9_493
  have fx9_493 := usI_16 (x7_491 + x8_492); rw [← ex9_493] at fx9_493
  intro x10_494 ex10_494 rx10_494
  have fx10_494 := aI_63 (x7_491 + x8_492 + x9_493); rw [← ex10_494] at fx10_494
  exact hQ _ (by omega)
theorem sX2_uses {k0 : Nat} {p1 : Int} {M : Mem} {Q : Int → Mem → Prop} (hI : IX M) (hk0 : isL k0) (hQ : ∀ z : Int, Q z M) : qX2_uses k0 p1 M Q := by
  unfold qX2_uses
  have ek0 : k0 = 187 ∨ k0 = 192 := hk0
  intro x1_495 ex1_495 rx1_495
  have bx1_495 : -2147483648 ≤ x1_495 ∧ x1_495 ≤ 2147483647 := rx1_495
  intro x2_496 ex2_496 rx2_496
  intro x3_497 ex3_497 rx3_497
  have fx3_497 := aI_1 x2_496; rw [← ex3_497] at fx3_497
  refine ⟨fun c => ?_, fun c => ?_⟩
  · exact hQ _
  · exact hQ _
theorem sX6_bitsOf_L5 {k0 : Nat} {k1 : Nat} {p2 : Int}  {Q : Int → Mem → Prop} {M0 : Mem} (hk0 : isS k0) (hQ : ∀ z : Int, Q z M0) : ∀ (n : Nat) (v3 v4 : Int), IX M0 → (0 ≤ v4 ∧ v4 ≤ 8) → iR v3 → 8 - v4 < (n : Int) → qX6_bitsOf_L5 k0 k1 p2 Q n v3 v4 M0 := by
  intro n
  induction n with
  | zero => intro v3 v4 hI hv hrv3 hm; exact absurd hm (by omega)
  | succ n ih =>
    intro v3 v4 hI hv hrv3 hm
    rw [qX6_bitsOf_L5]
    have ek0 : 0 < k0 ∧ k0 < 155 ∧ (k0 - 1) % 7 = 0 := hk0
    intro x1_500 ex1_500 rx1_500
    have bx1_500 : 0 ≤ x1_500 ∧ x1_500 ≤ 8 := by rw [ex1_500]; exact (bx_s0_7 hk0).mp (hI.bx _ _)
    refine ⟨(by first | assumption | exact (by omega)), ?_⟩
    refine ⟨fun c => ?_, fun c => ?_⟩
    · refine ⟨(by first | assumption | exact (by omega)), ?_⟩
      exact hQ _
    · refine ⟨by omega, ?_⟩
      refine ⟨by omega, ?_⟩
      intro x7_503 ex7_503 rx7_503
      have bx7_503 : -2147483648 ≤ x7_503 ∧ x7_503 ≤ 2147483647 := rx7_503
      refine ⟨fun c => ?_, fun c => ?_⟩
      · intro x9_505 ex9_505 rx9_505
        first | (have fx9_505 := oI_64 (a := v3) (b := 0) (by omega) (by omega); rw [← ex9_505] at fx9_505) | skip
        exact ih _ _ hI (by omega) (by first | assumption | exact (by omega)) (by omega)
      · intro x10_507 ex10_507 rx10_507
        first | (have fx10_507 := slI_1 (b := v4) (by omega); rw [← ex10_507] at fx10_507) | skip
        intro x11_508 ex11_508 rx11_508
        first | (have fx11_508 := oI_64 (a := v3) (b := x10_507) (by omega) (by omega); rw [← ex11_508] at fx11_508) | skip
        exact ih _ _ hI (by omega) (by first | assumption | exact (by omega)) (by omega)
theorem sX6_bitsOf {k0 : Nat} {k1 : Nat} {p2 : Int} {M : Mem} {Q : Int → Mem → Prop} (hI : IX M) (hk0 : isS k0) (hQ : ∀ z : Int, Q z M) : qX6_bitsOf k0 k1 p2 M Q := by
  unfold qX6_bitsOf
  have ek0 : 0 < k0 ∧ k0 < 155 ∧ (k0 - 1) % 7 = 0 := hk0
  refine ⟨9, ?_⟩
  refine sX6_bitsOf_L5 hk0 ?_ _ _ _ hI (by omega) (by first | assumption | exact (by omega)) (by omega)
  · exact hQ
theorem sX6_freeAhead_L15 {k0 : Nat} {p1 : Int} {p2 : Int}  {Q : Int → Mem → Prop} {M0 : Mem} (hk0 : isS k0) (hp : 0 ≤ p1 ∧ p1 ≤ 5 ∧ 0 ≤ p2 ∧ p2 ≤ 29) (hQ : ∀ z : Int, Q z M0) : ∀ (n : Nat) (v3 v4 v5 : Int), IX M0 → (-1 ≤ v3 ∧ v3 ≤ 29 ∧ -60 ≤ v4 ∧ v4 ≤ 60 ∧ 0 ≤ v5 ∧ v5 ≤ 6) → 6 - v5 < (n : Int) → qX6_freeAhead_L15 k0 p1 p2 Q n v3 v4 v5 M0 := by
  intro n
  induction n with
  | zero => intro v3 v4 v5 hI hv hm; exact absurd hm (by omega)
  | succ n ih =>
    intro v3 v4 v5 hI hv hm
    rw [qX6_freeAhead_L15]
    have ek0 : 0 < k0 ∧ k0 < 155 ∧ (k0 - 1) % 7 = 0 := hk0
    intro x4_509 ex4_509 rx4_509
    have bx4_509 : 0 ≤ x4_509 ∧ x4_509 ≤ 6 := by rw [ex4_509]; exact (bx_s0_6 hk0).mp (hI.bx _ _)
    refine ⟨(by first | assumption | exact (by omega)), ?_⟩
    refine ⟨fun c => ?_, fun c => ?_⟩
    · refine ⟨(by first | assumption | exact (by omega)), ?_⟩
      exact hQ _
    · refine ⟨by omega, ?_⟩
      refine ⟨by omega, ?_⟩
      intro x10_512 ex10_512 rx10_512
      have bx10_512 : -1 ≤ x10_512 ∧ x10_512 ≤ 29 := by rw [ex10_512]; exact (bx_s1 hk0).mp (hI.bx _ _)
      refine ⟨(by first | assumption | exact (by omega)), ?_⟩
      refine ⟨fun c => ?_, fun c => ?_⟩
      · exact ih _ _ _ hI (by omega) (by omega)
      · refine ⟨(by first | assumption | exact (by omega)), ?_⟩
        refine ⟨fun c => ?_, fun c => ?_⟩
        · exact ih _ _ _ hI (by omega) (by omega)
        · exact ih _ _ _ hI (by omega) (by omega)
theorem sX6_freeAhead {k0 : Nat} {p1 : Int} {p2 : Int} {M : Mem} {Q : Int → Mem → Prop} (hI : IX M) (hk0 : isS k0) (hp : 0 ≤ p1 ∧ p1 ≤ 5 ∧ 0 ≤ p2 ∧ p2 ≤ 29) (hQ : ∀ z : Int, Q z M) : qX6_freeAhead k0 p1 p2 M Q := by
  unfold qX6_freeAhead
  have ek0 : 0 < k0 ∧ k0 < 155 ∧ (k0 - 1) % 7 = 0 := hk0
  refine ⟨by omega, ?_⟩
  refine ⟨by omega, ?_⟩
  intro x3_517 ex3_517 rx3_517
  have bx3_517 : -1 ≤ x3_517 ∧ x3_517 ≤ 29 := by rw [ex3_517]; exact (bx_s1 hk0).mp (hI.bx _ _)
  refine ⟨7, ?_⟩
  refine sX6_freeAhead_L15 hk0 hp ?_ _ _ _ _ hI (by omega) (by omega)
  · exact hQ
theorem sX8_isCorner {p1 : Int} {M : Mem} {Q : Int → Mem → Prop} (hI : IX M) (hQ : ∀ z : Int, Q z M) : qX8_isCorner p1 M Q := by
  unfold qX8_isCorner
  intro x1_518 ex1_518 rx1_518
  have bx1_518 : -2147483648 ≤ x1_518 ∧ x1_518 ≤ 2147483647 := rx1_518
  intro x2_519 ex2_519 rx2_519
  intro x3_520 ex3_520 rx3_520
  have fx3_520 := aI_1 x2_519; rw [← ex3_520] at fx3_520
  refine ⟨fun c => ?_, fun c => ?_⟩
  · exact hQ _
  · exact hQ _
theorem sX8_weatherAt {p1 : Int} {M : Mem} {Q : Int → Mem → Prop} (hI : IX M) (hp : -2147483648 ≤ p1 ∧ p1 ≤ 2147483647) (hQ : ∀ z : Int, Q z M) : qX8_weatherAt p1 M Q := by
  unfold qX8_weatherAt
  intro x1_523 ex1_523 rx1_523
  have bx1_523 : 0 ≤ x1_523 ∧ x1_523 ≤ 20 := by rw [ex1_523]; exact (bx_c158_3).mp (hI.bx _ _)
  refine ⟨fun c => ?_, fun c => ?_⟩
  · exact hQ _
  · refine ⟨fun c => ?_, fun c => ?_⟩
    · intro x4_527 ex4_527 rx4_527
      have bx4_527 : 0 ≤ x4_527 ∧ x4_527 ≤ 20 := by rw [ex4_527]; exact (bx_c158_3).mp (hI.bx _ _)
      refine ⟨by omega, ?_⟩
      intro x6_528 ex6_528 rx6_528
      first | (have fx6_528 := rmI_b (a := p1) (b := x4_527) (by omega) (by omega); rw [← ex6_528] at fx6_528) | skip
      refine ⟨by omega, ?_⟩
      refine ⟨by omega, ?_⟩
      intro x9_529 ex9_529 rx9_529
      have bx9_529 : -2147483648 ≤ x9_529 ∧ x9_529 ≤ 2147483647 := rx9_529
      exact hQ _
    · exact hQ _
theorem sX2_observe {k0 : Nat} {k1 : Nat} {p3 : Int} {M : Mem} {Q : Mem → Prop} (hI : IX M) (hk0 : isL k0) (hk1 : isS k1) (hp : 0 ≤ p3 ∧ p3 ≤ 5) (hQ : ∀ M' : Mem, IX M' → Q M') : qX2_observe k0 k1 p3 M Q := by
  unfold qX2_observe
  have ek0 : k0 = 187 ∨ k0 = 192 := hk0
  have ek1 : 0 < k1 ∧ k1 < 155 ∧ (k1 - 1) % 7 = 0 := hk1
  refine ⟨by omega, ?_⟩
  refine ⟨by omega, ?_⟩
  intro x3_531 ex3_531 rx3_531
  have bx3_531 : -1 ≤ x3_531 ∧ x3_531 ≤ 29 := by rw [ex3_531]; exact (bx_s1 hk1).mp (hI.bx _ _)
  intro M4_532 h_M4_532
  have hM4_532 : IX M4_532 := by rw [h_M4_532]; exact hI.up (isL.nsp4 hk0) (bx_lf4 hk0)
  refine sX2_uses (p1 := 1) hM4_532 hk0 ?_
  intro x5_533 q534 q535
  refine ⟨fun c => ?_, fun c => ?_⟩
  · unfold qX2_observe_J38
    refine ⟨by omega, ?_⟩
    refine ⟨by omega, ?_⟩
    refine ⟨(by first | assumption | exact (by omega)), ?_⟩
    intro M10_537 h_M10_537
    have hM10_537 : IX M10_537 := by rw [h_M10_537]; exact hM4_532.up (isL.nsp4 hk0) (bx_lf4 hk0)
    refine ⟨by omega, ?_⟩
    refine ⟨by omega, ?_⟩
    intro x13_538 ex13_538 rx13_538
    have bx13_538 : -1 ≤ x13_538 ∧ x13_538 ≤ 29 := by rw [ex13_538]; exact (bx_s1 hk1).mp (hM10_537.bx _ _)
    have fx13_538 : x13_538 = M (k1 + 1) p3 := by rw [ex13_538, h_M10_537, up2_n (by omega), h_M4_532, up2_n (by omega)]
    refine sX8_isCorner (p1 := x13_538) hM10_537  ?_
    intro x14_539 q540 q541
    refine ⟨fun c => ?_, fun c => ?_⟩
    · unfold qX2_observe_J62
      refine ⟨by omega, ?_⟩
      refine ⟨by omega, ?_⟩
      refine ⟨(by first | assumption | exact (by omega)), ?_⟩
      intro M19_543 h_M19_543
      have hM19_543 : IX M19_543 := by rw [h_M19_543]; exact hM10_537.up (isL.nsp4 hk0) (bx_lf4 hk0)
      intro x20_544 ex20_544 rx20_544
      have bx20_544 : -2147483648 ≤ x20_544 ∧ x20_544 ≤ 2147483647 := rx20_544
      have fx20_544 : x20_544 = M k1 10 := by rw [ex20_544, h_M19_543, up2_n (by omega), h_M10_537, up2_n (by omega), h_M4_532, up2_n (by omega)]
      refine sX8_weatherAt (p1 := x20_544) hM19_543 (by omega) ?_
      intro x21_545 q546
      intro M22_547 h_M22_547
      have hM22_547 : IX M22_547 := by rw [h_M22_547]; exact hM19_543.up (isL.nsp4 hk0) (bx_lf4 hk0)
      intro x23_548 ex23_548 rx23_548
      have bx23_548 : -2147483648 ≤ x23_548 ∧ x23_548 ≤ 2147483647 := rx23_548
      have fx23_548 : x23_548 = M k1 10 := by rw [ex23_548, h_M22_547, up2_n (by omega), h_M19_543, up2_n (by omega), h_M10_537, up2_n (by omega), h_M4_532, up2_n (by omega)]
      intro x24_549 ex24_549 rx24_549
      first | (have fx24_549 := rmI_b (a := x23_548) (b := 10) (by omega) (by omega); rw [← ex24_549] at fx24_549) | skip
      intro M25_550 h_M25_550
      have hM25_550 : IX M25_550 := by rw [h_M25_550]; exact hM22_547.up (isL.nsp4 hk0) (bx_lf4 hk0)
      intro M26_551 h_M26_551
      have hM26_551 : IX M26_551 := by rw [h_M26_551]; exact hM25_550.up (isL.nsp4 hk0) (bx_lf4 hk0)
      refine sX2_uses (p1 := 6) hM26_551 hk0 ?_
      intro x27_552 q553 q554
      refine ⟨fun c => ?_, fun c => ?_⟩
      · unfold qX2_observe_J128
        refine ⟨by omega, ?_⟩
        refine ⟨by omega, ?_⟩
        refine ⟨(by first | assumption | exact (by omega)), ?_⟩
        intro M32_556 h_M32_556
        have hM32_556 : IX M32_556 := by rw [h_M32_556]; exact hM26_551.up (isL.nsp4 hk0) (bx_lf4 hk0)
        exact hQ _ hM32_556
      · refine sX6_bitsOf (p2 := p3) hM26_551 hk1 ?_
        intro x33_558 q559
        refine sJ6_bitCount_0f7a4 (p0 := x33_558) hM26_551  ?_
        intro x34_560 p561 q562
        unfold qX2_observe_J128
        refine ⟨by omega, ?_⟩
        refine ⟨by omega, ?_⟩
        refine ⟨(by first | assumption | exact (by omega)), ?_⟩
        intro M32_563 h_M32_563
        have hM32_563 : IX M32_563 := by rw [h_M32_563]; exact hM26_551.up (isL.nsp4 hk0) (bx_lf4 hk0)
        exact hQ _ hM32_563
    · unfold qX2_observe_J62
      refine ⟨by omega, ?_⟩
      refine ⟨by omega, ?_⟩
      refine ⟨(by first | assumption | exact (by omega)), ?_⟩
      intro M19_565 h_M19_565
      have hM19_565 : IX M19_565 := by rw [h_M19_565]; exact hM10_537.up (isL.nsp4 hk0) (bx_lf4 hk0)
      intro x20_566 ex20_566 rx20_566
      have bx20_566 : -2147483648 ≤ x20_566 ∧ x20_566 ≤ 2147483647 := rx20_566
      have fx20_566 : x20_566 = M k1 10 := by rw [ex20_566, h_M19_565, up2_n (by omega), h_M10_537, up2_n (by omega), h_M4_532, up2_n (by omega)]
      refine sX8_weatherAt (p1 := x20_566) hM19_565 (by omega) ?_
      intro x21_567 q568
      intro M22_569 h_M22_569
      have hM22_569 : IX M22_569 := by rw [h_M22_569]; exact hM19_565.up (isL.nsp4 hk0) (bx_lf4 hk0)
      intro x23_570 ex23_570 rx23_570
      have bx23_570 : -2147483648 ≤ x23_570 ∧ x23_570 ≤ 2147483647 := rx23_570
      have fx23_570 : x23_570 = M k1 10 := by rw [ex23_570, h_M22_569, up2_n (by omega), h_M19_565, up2_n (by omega), h_M10_537, up2_n (by omega), h_M4_532, up2_n (by omega)]
      intro x24_571 ex24_571 rx24_571
      first | (have fx24_571 := rmI_b (a := x23_570) (b := 10) (by omega) (by omega); rw [← ex24_571] at fx24_571) | skip
      intro M25_572 h_M25_572
      have hM25_572 : IX M25_572 := by rw [h_M25_572]; exact hM22_569.up (isL.nsp4 hk0) (bx_lf4 hk0)
      intro M26_573 h_M26_573
      have hM26_573 : IX M26_573 := by rw [h_M26_573]; exact hM25_572.up (isL.nsp4 hk0) (bx_lf4 hk0)
      refine sX2_uses (p1 := 6) hM26_573 hk0 ?_
      intro x27_574 q575 q576
      refine ⟨fun c => ?_, fun c => ?_⟩
      · unfold qX2_observe_J128
        refine ⟨by omega, ?_⟩
        refine ⟨by omega, ?_⟩
        refine ⟨(by first | assumption | exact (by omega)), ?_⟩
        intro M32_578 h_M32_578
        have hM32_578 : IX M32_578 := by rw [h_M32_578]; exact hM26_573.up (isL.nsp4 hk0) (bx_lf4 hk0)
        exact hQ _ hM32_578
      · refine sX6_bitsOf (p2 := p3) hM26_573 hk1 ?_
        intro x33_580 q581
        refine sJ6_bitCount_0f7a4 (p0 := x33_580) hM26_573  ?_
        intro x34_582 p583 q584
        unfold qX2_observe_J128
        refine ⟨by omega, ?_⟩
        refine ⟨by omega, ?_⟩
        refine ⟨(by first | assumption | exact (by omega)), ?_⟩
        intro M32_585 h_M32_585
        have hM32_585 : IX M32_585 := by rw [h_M32_585]; exact hM26_573.up (isL.nsp4 hk0) (bx_lf4 hk0)
        exact hQ _ hM32_585
  · refine sX8_gate  hM4_532  ?_
    intro x35_587 p588 q589
    refine sX6_freeAhead (p1 := p3) (p2 := x35_587) hM4_532 hk1 (by omega) ?_
    intro x36_590 q591
    unfold qX2_observe_J38
    refine ⟨by omega, ?_⟩
    refine ⟨by omega, ?_⟩
    refine ⟨(by first | assumption | exact (by omega)), ?_⟩
    intro M10_592 h_M10_592
    have hM10_592 : IX M10_592 := by rw [h_M10_592]; exact hM4_532.up (isL.nsp4 hk0) (bx_lf4 hk0)
    refine ⟨by omega, ?_⟩
    refine ⟨by omega, ?_⟩
    intro x13_593 ex13_593 rx13_593
    have bx13_593 : -1 ≤ x13_593 ∧ x13_593 ≤ 29 := by rw [ex13_593]; exact (bx_s1 hk1).mp (hM10_592.bx _ _)
    have fx13_593 : x13_593 = M (k1 + 1) p3 := by rw [ex13_593, h_M10_592, up2_n (by omega), h_M4_532, up2_n (by omega)]
    refine sX8_isCorner (p1 := x13_593) hM10_592  ?_
    intro x14_594 q595 q596
    refine ⟨fun c => ?_, fun c => ?_⟩
    · unfold qX2_observe_J62
      refine ⟨by omega, ?_⟩
      refine ⟨by omega, ?_⟩
      refine ⟨(by first | assumption | exact (by omega)), ?_⟩
      intro M19_598 h_M19_598
      have hM19_598 : IX M19_598 := by rw [h_M19_598]; exact hM10_592.up (isL.nsp4 hk0) (bx_lf4 hk0)
      intro x20_599 ex20_599 rx20_599
      have bx20_599 : -2147483648 ≤ x20_599 ∧ x20_599 ≤ 2147483647 := rx20_599
      have fx20_599 : x20_599 = M k1 10 := by rw [ex20_599, h_M19_598, up2_n (by omega), h_M10_592, up2_n (by omega), h_M4_532, up2_n (by omega)]
      refine sX8_weatherAt (p1 := x20_599) hM19_598 (by omega) ?_
      intro x21_600 q601
      intro M22_602 h_M22_602
      have hM22_602 : IX M22_602 := by rw [h_M22_602]; exact hM19_598.up (isL.nsp4 hk0) (bx_lf4 hk0)
      intro x23_603 ex23_603 rx23_603
      have bx23_603 : -2147483648 ≤ x23_603 ∧ x23_603 ≤ 2147483647 := rx23_603
      have fx23_603 : x23_603 = M k1 10 := by rw [ex23_603, h_M22_602, up2_n (by omega), h_M19_598, up2_n (by omega), h_M10_592, up2_n (by omega), h_M4_532, up2_n (by omega)]
      intro x24_604 ex24_604 rx24_604
      first | (have fx24_604 := rmI_b (a := x23_603) (b := 10) (by omega) (by omega); rw [← ex24_604] at fx24_604) | skip
      intro M25_605 h_M25_605
      have hM25_605 : IX M25_605 := by rw [h_M25_605]; exact hM22_602.up (isL.nsp4 hk0) (bx_lf4 hk0)
      intro M26_606 h_M26_606
      have hM26_606 : IX M26_606 := by rw [h_M26_606]; exact hM25_605.up (isL.nsp4 hk0) (bx_lf4 hk0)
      refine sX2_uses (p1 := 6) hM26_606 hk0 ?_
      intro x27_607 q608 q609
      refine ⟨fun c => ?_, fun c => ?_⟩
      · unfold qX2_observe_J128
        refine ⟨by omega, ?_⟩
        refine ⟨by omega, ?_⟩
        refine ⟨(by first | assumption | exact (by omega)), ?_⟩
        intro M32_611 h_M32_611
        have hM32_611 : IX M32_611 := by rw [h_M32_611]; exact hM26_606.up (isL.nsp4 hk0) (bx_lf4 hk0)
        exact hQ _ hM32_611
      · refine sX6_bitsOf (p2 := p3) hM26_606 hk1 ?_
        intro x33_613 q614
        refine sJ6_bitCount_0f7a4 (p0 := x33_613) hM26_606  ?_
        intro x34_615 p616 q617
        unfold qX2_observe_J128
        refine ⟨by omega, ?_⟩
        refine ⟨by omega, ?_⟩
        refine ⟨(by first | assumption | exact (by omega)), ?_⟩
        intro M32_618 h_M32_618
        have hM32_618 : IX M32_618 := by rw [h_M32_618]; exact hM26_606.up (isL.nsp4 hk0) (bx_lf4 hk0)
        exact hQ _ hM32_618
    · unfold qX2_observe_J62
      refine ⟨by omega, ?_⟩
      refine ⟨by omega, ?_⟩
      refine ⟨(by first | assumption | exact (by omega)), ?_⟩
      intro M19_620 h_M19_620
      have hM19_620 : IX M19_620 := by rw [h_M19_620]; exact hM10_592.up (isL.nsp4 hk0) (bx_lf4 hk0)
      intro x20_621 ex20_621 rx20_621
      have bx20_621 : -2147483648 ≤ x20_621 ∧ x20_621 ≤ 2147483647 := rx20_621
      have fx20_621 : x20_621 = M k1 10 := by rw [ex20_621, h_M19_620, up2_n (by omega), h_M10_592, up2_n (by omega), h_M4_532, up2_n (by omega)]
      refine sX8_weatherAt (p1 := x20_621) hM19_620 (by omega) ?_
      intro x21_622 q623
      intro M22_624 h_M22_624
      have hM22_624 : IX M22_624 := by rw [h_M22_624]; exact hM19_620.up (isL.nsp4 hk0) (bx_lf4 hk0)
      intro x23_625 ex23_625 rx23_625
      have bx23_625 : -2147483648 ≤ x23_625 ∧ x23_625 ≤ 2147483647 := rx23_625
      have fx23_625 : x23_625 = M k1 10 := by rw [ex23_625, h_M22_624, up2_n (by omega), h_M19_620, up2_n (by omega), h_M10_592, up2_n (by omega), h_M4_532, up2_n (by omega)]
      intro x24_626 ex24_626 rx24_626
      first | (have fx24_626 := rmI_b (a := x23_625) (b := 10) (by omega) (by omega); rw [← ex24_626] at fx24_626) | skip
      intro M25_627 h_M25_627
      have hM25_627 : IX M25_627 := by rw [h_M25_627]; exact hM22_624.up (isL.nsp4 hk0) (bx_lf4 hk0)
      intro M26_628 h_M26_628
      have hM26_628 : IX M26_628 := by rw [h_M26_628]; exact hM25_627.up (isL.nsp4 hk0) (bx_lf4 hk0)
      refine sX2_uses (p1 := 6) hM26_628 hk0 ?_
      intro x27_629 q630 q631
      refine ⟨fun c => ?_, fun c => ?_⟩
      · unfold qX2_observe_J128
        refine ⟨by omega, ?_⟩
        refine ⟨by omega, ?_⟩
        refine ⟨(by first | assumption | exact (by omega)), ?_⟩
        intro M32_633 h_M32_633
        have hM32_633 : IX M32_633 := by rw [h_M32_633]; exact hM26_628.up (isL.nsp4 hk0) (bx_lf4 hk0)
        exact hQ _ hM32_633
      · refine sX6_bitsOf (p2 := p3) hM26_628 hk1 ?_
        intro x33_635 q636
        refine sJ6_bitCount_0f7a4 (p0 := x33_635) hM26_628  ?_
        intro x34_637 p638 q639
        unfold qX2_observe_J128
        refine ⟨by omega, ?_⟩
        refine ⟨by omega, ?_⟩
        refine ⟨(by first | assumption | exact (by omega)), ?_⟩
        intro M32_640 h_M32_640
        have hM32_640 : IX M32_640 := by rw [h_M32_640]; exact hM26_628.up (isL.nsp4 hk0) (bx_lf4 hk0)
        exact hQ _ hM32_640
theorem sX2_join {p0 : Int} {p1 : Int} {p2 : Int} {M : Mem} {Q : Int → Mem → Prop} (hI : IX M) (hQ : ∀ z : Int, Q z M) : qX2_join p0 p1 p2 M Q := by
  unfold qX2_join
  refine ⟨fun c => ?_, fun c => ?_, fun c => ?_, fun c => ?_, fun c => ?_, fun c => ?_, fun c => ?_⟩
  · intro x2_642 ex2_642 rx2_642
    first | (have fx2_642 : x2_642 = p1 * p2 := by rw [ex2_642]; exact w32_id (by omega)) | skip
    exact hQ _
  · intro x3_644 ex3_644 rx3_644
    first | (have fx3_644 : x3_644 = p1 + p2 := by rw [ex3_644]; exact w32_id (by omega)) | skip
    exact hQ _
  · intro x4_646 ex4_646 rx4_646
    first | (have fx4_646 : x4_646 = p1 - p2 := by rw [ex4_646]; exact w32_id (by omega)) | skip
    exact hQ _
  · refine ⟨fun c => ?_, fun c => ?_⟩
    · refine ⟨by omega, ?_⟩
      intro x7_649 ex7_649 rx7_649
      first | (have fx7_649 := dvI_b (a := p1) (b := p2) (by omega) (by omega); rw [← ex7_649] at fx7_649) | skip
      exact hQ _
    · exact hQ _
  · refine ⟨fun c => ?_, fun c => ?_⟩
    · exact hQ _
    · exact hQ _
  · refine ⟨fun c => ?_, fun c => ?_⟩
    · exact hQ _
    · exact hQ _
  · refine ⟨fun c => ?_, fun c => ?_⟩
    · exact hQ _
    · exact hQ _
theorem sX2_pace_L4 {k0 : Nat} {X145 : Mem → Prop} {Q : Int → Mem → Prop} (hk0 : isL k0) (hQ : ∀ z : Int, ∀ M' : Mem, IX M' → (0 ≤ z ∧ z ≤ 3) → Q z M') (hX145 : ∀ M' : Mem, IX M' → X145 M') : ∀ (n : Nat) (v1 v2 : Int) (M : Mem), IX M → (0 ≤ v1 ∧ v1 ≤ v2 ∧ v2 ≤ 40) → 40 - v2 < (n : Int) → qX2_pace_L4 k0 X145 Q n v1 v2 M := by
  intro n
  induction n with
  | zero => intro v1 v2 M hI hv hm; exact absurd hm (by omega)
  | succ n ih =>
    intro v1 v2 M hI hv hm
    rw [qX2_pace_L4]
    have ek0 : k0 = 187 ∨ k0 = 192 := hk0
    intro x1_660 ex1_660 rx1_660
    have bx1_660 : 0 ≤ x1_660 ∧ x1_660 ≤ 40 := by rw [ex1_660]; exact (bx_l4 hk0).mp (hI.bx _ _)
    refine ⟨(by first | assumption | exact (by omega)), ?_⟩
    refine ⟨fun c => ?_, fun c => ?_⟩
    · exact hX145 _ hI
    · refine ⟨by omega, ?_⟩
      refine ⟨by omega, ?_⟩
      intro x6_663 ex6_663 rx6_663
      have bx6_663 : -2147483648 ≤ x6_663 ∧ x6_663 ≤ 2147483647 := rx6_663
      refine ⟨fun c => ?_, fun c => ?_⟩
      · refine ⟨fun c => ?_, fun c => ?_⟩
        · refine ⟨fun c => ?_, fun c => ?_⟩
          · unfold qX2_pace_J105
            refine ⟨(by first | assumption | exact (by omega)), ?_⟩
            refine ⟨fun c => ?_, fun c => ?_⟩
            · exact ih _ _ _ hI (by omega) (by omega)
            · intro x12_669 ex12_669 rx12_669
              first | (have fx12_669 : x12_669 = v1 + (-1) - 1 := by rw [ex12_669]; exact w32_id (by omega)) | skip
              intro x13_670 ex13_670 rx13_670
              first | (have fx13_670 : x13_670 = v1 + (-1) - 1 := by rw [ex13_670]; exact w32_id (by omega)) | skip
              refine ⟨by omega, ?_⟩
              refine ⟨by omega, ?_⟩
              intro x16_671 ex16_671 rx16_671
              have bx16_671 : -2147483648 ≤ x16_671 ∧ x16_671 ≤ 2147483647 := rx16_671
              refine ⟨by omega, ?_⟩
              refine ⟨by omega, ?_⟩
              intro x19_672 ex19_672 rx19_672
              have bx19_672 : -2147483648 ≤ x19_672 ∧ x19_672 ≤ 2147483647 := rx19_672
              refine ⟨(by first | assumption | exact (by omega)), ?_⟩
              refine sX2_join (p0 := x6_663) (p1 := x16_671) (p2 := x19_672) hI  ?_
              intro x21_673 q674
              refine ⟨by omega, ?_⟩
              refine ⟨by omega, ?_⟩
              intro M24_675 h_M24_675
              have hM24_675 : IX M24_675 := by rw [h_M24_675]; exact hI.up (isL.nsp3 hk0) (bx_lf3 hk0)
              exact ih _ _ _ hM24_675 (by omega) (by omega)
          · refine ⟨(by first | assumption | exact (by omega)), ?_⟩
            refine ⟨fun c => ?_, fun c => ?_⟩
            · unfold qX2_pace_J105
              refine ⟨(by first | assumption | exact (by omega)), ?_⟩
              refine ⟨fun c => ?_, fun c => ?_⟩
              · exact ih _ _ _ hI (by omega) (by omega)
              · intro x12_680 ex12_680 rx12_680
                first | (have fx12_680 : x12_680 = v1 + (-1) - 1 := by rw [ex12_680]; exact w32_id (by omega)) | skip
                intro x13_681 ex13_681 rx13_681
                first | (have fx13_681 : x13_681 = v1 + (-1) - 1 := by rw [ex13_681]; exact w32_id (by omega)) | skip
                refine ⟨by omega, ?_⟩
                refine ⟨by omega, ?_⟩
                intro x16_682 ex16_682 rx16_682
                have bx16_682 : -2147483648 ≤ x16_682 ∧ x16_682 ≤ 2147483647 := rx16_682
                refine ⟨by omega, ?_⟩
                refine ⟨by omega, ?_⟩
                intro x19_683 ex19_683 rx19_683
                have bx19_683 : -2147483648 ≤ x19_683 ∧ x19_683 ≤ 2147483647 := rx19_683
                refine ⟨(by first | assumption | exact (by omega)), ?_⟩
                refine sX2_join (p0 := x6_663) (p1 := x16_682) (p2 := x19_683) hI  ?_
                intro x21_684 q685
                refine ⟨by omega, ?_⟩
                refine ⟨by omega, ?_⟩
                intro M24_686 h_M24_686
                have hM24_686 : IX M24_686 := by rw [h_M24_686]; exact hI.up (isL.nsp3 hk0) (bx_lf3 hk0)
                exact ih _ _ _ hM24_686 (by omega) (by omega)
            · intro x27_688 ex27_688 rx27_688
              first | (have fx27_688 : x27_688 = v1 - 1 := by rw [ex27_688]; exact w32_id (by omega)) | skip
              intro x28_689 ex28_689 rx28_689
              first | (have fx28_689 : x28_689 = v1 - 1 := by rw [ex28_689]; exact w32_id (by omega)) | skip
              refine ⟨by omega, ?_⟩
              refine ⟨by omega, ?_⟩
              intro x31_690 ex31_690 rx31_690
              have bx31_690 : -2147483648 ≤ x31_690 ∧ x31_690 ≤ 2147483647 := rx31_690
              intro x32_691 ex32_691 rx32_691
              first | (have fx32_691 : x32_691 = (-x31_690) := by rw [ex32_691]; exact w32_id (by omega)) | skip
              refine ⟨by omega, ?_⟩
              refine ⟨by omega, ?_⟩
              intro M35_692 h_M35_692
              have hM35_692 : IX M35_692 := by rw [h_M35_692]; exact hI.up (isL.nsp3 hk0) (bx_lf3 hk0)
              exact ih _ _ _ hM35_692 (by omega) (by omega)
        · intro x36_694 ex36_694 rx36_694
          have bx36_694 : -2147483648 ≤ x36_694 ∧ x36_694 ≤ 2147483647 := rx36_694
          have lx36_694 := hI.lt (k := k0) hk0 (j := v2)
          refine ⟨by omega, ?_⟩
          refine ⟨by omega, ?_⟩
          intro x39_695 ex39_695 rx39_695
          have bx39_695 : -2147483648 ≤ x39_695 ∧ x39_695 ≤ 2147483647 := rx39_695
          refine ⟨by omega, ?_⟩
          refine ⟨by omega, ?_⟩
          intro M42_696 h_M42_696
          have hM42_696 : IX M42_696 := by rw [h_M42_696]; exact hI.up (isL.nsp3 hk0) (bx_lf3 hk0)
          exact ih _ _ _ hM42_696 (by omega) (by omega)
      · intro x43_698 ex43_698 rx43_698
        have bx43_698 : -2147483648 ≤ x43_698 ∧ x43_698 ≤ 2147483647 := rx43_698
        have lx43_698 := hI.lt (k := k0) hk0 (j := v2)
        refine ⟨by omega, ?_⟩
        refine ⟨by omega, ?_⟩
        intro M46_699 h_M46_699
        have hM46_699 : IX M46_699 := by rw [h_M46_699]; exact hI.up (isL.nsp3 hk0) (bx_lf3 hk0)
        exact ih _ _ _ hM46_699 (by omega) (by omega)
theorem sX2_pace {k0 : Nat} {M : Mem} {Q : Int → Mem → Prop} (hI : IX M) (hk0 : isL k0) (hQ : ∀ z : Int, ∀ M' : Mem, IX M' → (0 ≤ z ∧ z ≤ 3) → Q z M') : qX2_pace k0 M Q := by
  unfold qX2_pace
  have ek0 : k0 = 187 ∨ k0 = 192 := hk0
  refine ⟨41, ?_⟩
  refine sX2_pace_L4 hk0 ?_ ?_ _ _ _ _ hI (by omega) (by omega)
  · exact hQ
  · intro M_700 hM_700
    intro x48_701 ex48_701 rx48_701
    have bx48_701 : -2147483648 ≤ x48_701 ∧ x48_701 ≤ 2147483647 := rx48_701
    intro x49_702 ex49_702 rx49_702
    intro x50_703 ex50_703 rx50_703
    exact hQ _ _ hM_700 (by omega)
theorem sX6_arrive {k0 : Nat} {p1 : Int} {M : Mem} {Q : Mem → Prop} (hI : IX M) (hk0 : isS k0) (hp : 0 ≤ p1 ∧ p1 ≤ 5) (hQ : ∀ M' : Mem, IX M' → Q M') : qX6_arrive k0 p1 M Q := by
  unfold qX6_arrive
  have ek0 : 0 < k0 ∧ k0 < 155 ∧ (k0 - 1) % 7 = 0 := hk0
  intro x1_704 ex1_704 rx1_704
  have bx1_704 : -2147483648 ≤ x1_704 ∧ x1_704 ≤ 2147483647 := rx1_704
  intro x2_705 ex2_705 rx2_705
  first | (have fx2_705 : x2_705 = x1_704 + 1 := by rw [ex2_705]; exact w32_id (by omega)) | skip
  intro M3_706 h_M3_706
  have hM3_706 : IX M3_706 := by rw [h_M3_706]; exact hI.up (isS.nsp hk0 0 (by decide)) (bx_sf0 hk0 (by decide) (by decide))
  intro x4_707 ex4_707 rx4_707
  have bx4_707 : -2147483648 ≤ x4_707 ∧ x4_707 ≤ 2147483647 := rx4_707
  have fx4_707 : x4_707 = x2_705 := by rw [ex4_707, h_M3_706, up2_s]
  refine ⟨by omega, ?_⟩
  refine ⟨by omega, ?_⟩
  intro M7_708 h_M7_708
  have hM7_708 : IX M7_708 := by rw [h_M7_708]; exact hM3_706.up (isS.nsp hk0 2 (by decide)) (bx_sf2 hk0)
  intro M8_709 h_M8_709
  have hM8_709 : IX M8_709 := by rw [h_M8_709]; exact hM7_708.up (isS.nsp hk0 1 (by decide)) ((bx_s1 hk0).mpr (by omega))
  exact hQ _ hM8_709
theorem sX6_takenCells_L4 {k0 : Nat}  {Q : Int → Mem → Prop} {M0 : Mem} (hk0 : isS k0) (hQ : ∀ z : Int, Q z M0) : ∀ (n : Nat) (v1 v2 : Int), IX M0 → (0 ≤ v2 ∧ v2 ≤ 6) → iR v1 → 6 - v2 < (n : Int) → qX6_takenCells_L4 k0 Q n v1 v2 M0 := by
  intro n
  induction n with
  | zero => intro v1 v2 hI hv hrv1 hm; exact absurd hm (by omega)
  | succ n ih =>
    intro v1 v2 hI hv hrv1 hm
    rw [qX6_takenCells_L4]
    have ek0 : 0 < k0 ∧ k0 < 155 ∧ (k0 - 1) % 7 = 0 := hk0
    intro x1_710 ex1_710 rx1_710
    have bx1_710 : 0 ≤ x1_710 ∧ x1_710 ≤ 6 := by rw [ex1_710]; exact (bx_s0_6 hk0).mp (hI.bx _ _)
    refine ⟨(by first | assumption | exact (by omega)), ?_⟩
    refine ⟨fun c => ?_, fun c => ?_⟩
    · refine ⟨(by first | assumption | exact (by omega)), ?_⟩
      exact hQ _
    · refine ⟨by omega, ?_⟩
      refine ⟨by omega, ?_⟩
      intro x7_713 ex7_713 rx7_713
      have bx7_713 : -1 ≤ x7_713 ∧ x7_713 ≤ 29 := by rw [ex7_713]; exact (bx_s1 hk0).mp (hI.bx _ _)
      refine ⟨fun c => ?_, fun c => ?_⟩
      · intro x9_715 ex9_715 rx9_715
        have bx9_715 : -1 ≤ x9_715 ∧ x9_715 ≤ 29 := by rw [ex9_715]; exact (bx_s1 hk0).mp (hI.bx _ _)
        intro x10_716 ex10_716 rx10_716
        first | (have fx10_716 := slI_1 (b := x9_715) (by omega); rw [← ex10_716] at fx10_716) | skip
        intro x11_717 ex11_717 rx11_717
        first | (have fx11_717 := oI_64 (a := v1) (b := x10_716) (by omega) (by omega); rw [← ex11_717] at fx11_717) | skip
        exact ih _ _ hI (by omega) (by first | assumption | exact (by omega)) (by omega)
      · intro x12_719 ex12_719 rx12_719
        first | (have fx12_719 := oI_64 (a := v1) (b := 0) (by omega) (by omega); rw [← ex12_719] at fx12_719) | skip
        exact ih _ _ hI (by omega) (by first | assumption | exact (by omega)) (by omega)
theorem sX6_takenCells {k0 : Nat} {M : Mem} {Q : Int → Mem → Prop} (hI : IX M) (hk0 : isS k0) (hQ : ∀ z : Int, Q z M) : qX6_takenCells k0 M Q := by
  unfold qX6_takenCells
  have ek0 : 0 < k0 ∧ k0 < 155 ∧ (k0 - 1) % 7 = 0 := hk0
  refine ⟨7, ?_⟩
  refine sX6_takenCells_L4 hk0 ?_ _ _ _ hI (by omega) (by first | assumption | exact (by omega)) (by omega)
  · exact hQ
theorem sX10_moveHearse {k1 : Nat} {k2 : Nat} {p3 : Int} {M : Mem} {Q : Mem → Prop} (hI : IX M) (hk1 : isS k1) (hk2 : isL k2) (hp : 0 ≤ p3 ∧ p3 ≤ 5 ∧ 0 ≤ M (k1 + 1) p3) (hQ : ∀ M' : Mem, IX M' → Q M') : qX10_moveHearse k1 k2 p3 M Q := by
  unfold qX10_moveHearse
  have ek1 : 0 < k1 ∧ k1 < 155 ∧ (k1 - 1) % 7 = 0 := hk1
  have ek2 : k2 = 187 ∨ k2 = 192 := hk2
  refine ⟨by omega, ?_⟩
  refine ⟨by omega, ?_⟩
  intro x3_720 ex3_720 rx3_720
  have bx3_720 : -1 ≤ x3_720 ∧ x3_720 ≤ 29 := by rw [ex3_720]; exact (bx_s1 hk1).mp (hI.bx _ _)
  refine sX2_observe (p3 := p3) hI hk2 hk1 (by omega) ?_
  intro M4_721 hM4_721
  refine sX6_takenCells  hM4_721 hk1 ?_
  intro x5_722 q723
  refine sX2_pace  hM4_721 hk2 ?_
  intro x6_724 M6_725 hM6_725 p726 q727
  refine sX10_goal (p1 := x5_722) (p2 := x3_720) (p3 := x6_724) hM6_725 (by omega) ?_
  intro x7_728 p729 q730
  refine ⟨fun c => ?_, fun c => ?_⟩
  · intro M9_732 h_M9_732
    have hM9_732 : IX M9_732 := by rw [h_M9_732]; exact hM6_725.up (by decide) (by simp [BX])
    refine sX8_gate  hM9_732  ?_
    intro x10_733 p734 q735
    refine ⟨fun c => ?_, fun c => ?_⟩
    · intro M12_737 h_M12_737
      have hM12_737 : IX M12_737 := by rw [h_M12_737]; exact hM9_732.up (isS.nsp hk1 1 (by decide)) ((bx_s1 hk1).mpr (by omega))
      exact hQ _ hM12_737
    · refine sX6_arrive (p1 := p3) hM9_732 hk1 (by omega) ?_
      intro M13_739 hM13_739
      exact hQ _ hM13_739
  · intro x14_741 ex14_741 rx14_741
    have bx14_741 : -2147483648 ≤ x14_741 ∧ x14_741 ≤ 2147483647 := rx14_741
    intro x15_742 ex15_742 rx15_742
    first | (have fx15_742 : x15_742 = x14_741 + 1 := by rw [ex15_742]; exact w32_id (by omega)) | skip
    intro M16_743 h_M16_743
    have hM16_743 : IX M16_743 := by rw [h_M16_743]; exact hM6_725.up (by decide) (by simp [BX])
    refine ⟨by omega, ?_⟩
    refine ⟨by omega, ?_⟩
    intro x19_744 ex19_744 rx19_744
    have bx19_744 : -2147483648 ≤ x19_744 ∧ x19_744 ≤ 2147483647 := rx19_744
    have fx19_744 : x19_744 = M6_725 161 x3_720 := by rw [ex19_744, h_M16_743, up2_n (by decide)]
    intro x20_745 ex20_745 rx20_745
    first | (have fx20_745 : x20_745 = x19_744 + 1 := by rw [ex20_745]; exact w32_id (by omega)) | skip
    intro M21_746 h_M21_746
    have hM21_746 : IX M21_746 := by rw [h_M21_746]; exact hM16_743.up (by decide) (by simp [BX])
    exact hQ _ hM21_746
theorem sX6_endAt {k0 : Nat} {p1 : Int} {p2 : Int} {M : Mem} {Q : Mem → Prop} (hI : IX M) (hk0 : isS k0) (hp : 0 ≤ p1 ∧ p1 ≤ 7) (hQ : ∀ M' : Mem, IX M' → Q M') : qX6_endAt k0 p1 p2 M Q := by
  unfold qX6_endAt
  have ek0 : 0 < k0 ∧ k0 < 155 ∧ (k0 - 1) % 7 = 0 := hk0
  refine ⟨by omega, ?_⟩
  refine ⟨by omega, ?_⟩
  intro M3_747 h_M3_747
  have hM3_747 : IX M3_747 := by rw [h_M3_747]; exact hI.up (isS.nsp hk0 6 (by decide)) (bx_sf6 hk0)
  intro x4_748 ex4_748 rx4_748
  have bx4_748 : -2147483648 ≤ x4_748 ∧ x4_748 ≤ 2147483647 := rx4_748
  have fx4_748 : x4_748 = M k0 9 := by rw [ex4_748, h_M3_747, up2_n (by omega)]
  intro x5_749 ex5_749 rx5_749
  first | (have fx5_749 : x5_749 = x4_748 + 1 := by rw [ex5_749]; exact w32_id (by omega)) | skip
  intro M6_750 h_M6_750
  have hM6_750 : IX M6_750 := by rw [h_M6_750]; exact hM3_747.up (isS.nsp hk0 0 (by decide)) (bx_sf0 hk0 (by decide) (by decide))
  exact hQ _ hM6_750
theorem sX6_hasArrived {k0 : Nat} {p1 : Int} {M : Mem} {Q : Int → Mem → Prop} (hI : IX M) (hk0 : isS k0) (hp : 0 ≤ p1 ∧ p1 ≤ 5) (hQ : ∀ z : Int, Q z M) : qX6_hasArrived k0 p1 M Q := by
  unfold qX6_hasArrived
  have ek0 : 0 < k0 ∧ k0 < 155 ∧ (k0 - 1) % 7 = 0 := hk0
  refine ⟨by omega, ?_⟩
  refine ⟨by omega, ?_⟩
  intro x3_751 ex3_751 rx3_751
  have bx3_751 : -2147483648 ≤ x3_751 ∧ x3_751 ≤ 2147483647 := rx3_751
  refine ⟨fun c => ?_, fun c => ?_⟩
  · exact hQ _
  · exact hQ _
theorem sX6_nearestTo_L8 {k0 : Nat} {p1 : Int}  {Q : Int → Mem → Prop} {M0 : Mem} (hk0 : isS k0) (hp : -1 ≤ p1 ∧ p1 ≤ 29) (hQ : ∀ z : Int, (-1 ≤ z ∧ z ≤ 5) → Q z M0) : ∀ (n : Nat) (v2 v3 v4 : Int), IX M0 → (-1 ≤ v2 ∧ v2 ≤ 5 ∧ 0 ≤ v3 ∧ v3 ≤ 60 ∧ 0 ≤ v4 ∧ v4 ≤ 6) → 6 - v4 < (n : Int) → qX6_nearestTo_L8 k0 p1 Q n v2 v3 v4 M0 := by
  intro n
  induction n with
  | zero => intro v2 v3 v4 hI hv hm; exact absurd hm (by omega)
  | succ n ih =>
    intro v2 v3 v4 hI hv hm
    rw [qX6_nearestTo_L8]
    have ek0 : 0 < k0 ∧ k0 < 155 ∧ (k0 - 1) % 7 = 0 := hk0
    intro x1_754 ex1_754 rx1_754
    have bx1_754 : 0 ≤ x1_754 ∧ x1_754 ≤ 6 := by rw [ex1_754]; exact (bx_s0_6 hk0).mp (hI.bx _ _)
    refine ⟨(by first | assumption | exact (by omega)), ?_⟩
    refine ⟨fun c => ?_, fun c => ?_⟩
    · refine ⟨(by first | assumption | exact (by omega)), ?_⟩
      exact hQ _ (by omega)
    · refine ⟨by omega, ?_⟩
      refine ⟨by omega, ?_⟩
      intro x7_757 ex7_757 rx7_757
      have bx7_757 : -1 ≤ x7_757 ∧ x7_757 ≤ 29 := by rw [ex7_757]; exact (bx_s1 hk0).mp (hI.bx _ _)
      refine ⟨(by first | assumption | exact (by omega)), ?_⟩
      intro x9_758 px9_758 nx9_758
      have bx9_758 : 0 ≤ x9_758 ∧ (x7_757 - p1 = x9_758 ∨ x7_757 - p1 = -x9_758) := by omega
      refine ⟨(by first | assumption | exact (by omega)), ?_⟩
      refine ⟨(by first | assumption | exact (by omega)), ?_⟩
      refine ⟨fun c => ?_, fun c => ?_⟩
      · unfold qX6_nearestTo_J54
        unfold qX6_nearestTo_J59
        refine ⟨(by first | assumption | exact (by omega)), ?_⟩
        refine ⟨fun c => ?_, fun c => ?_⟩
        · exact ih _ _ _ hI (by omega) (by omega)
        · refine ⟨by omega, ?_⟩
          refine ⟨by omega, ?_⟩
          intro x17_762 ex17_762 rx17_762
          have bx17_762 : -1 ≤ x17_762 ∧ x17_762 ≤ 29 := by rw [ex17_762]; exact (bx_s1 hk0).mp (hI.bx _ _)
          refine ⟨fun c => ?_, fun c => ?_⟩
          · exact ih _ _ _ hI (by omega) (by omega)
          · exact ih _ _ _ hI (by omega) (by omega)
      · refine ⟨fun c => ?_, fun c => ?_⟩
        · unfold qX6_nearestTo_J58
          unfold qX6_nearestTo_J59
          refine ⟨(by first | assumption | exact (by omega)), ?_⟩
          refine ⟨fun c => ?_, fun c => ?_⟩
          · exact ih _ _ _ hI (by omega) (by omega)
          · refine ⟨by omega, ?_⟩
            refine ⟨by omega, ?_⟩
            intro x17_769 ex17_769 rx17_769
            have bx17_769 : -1 ≤ x17_769 ∧ x17_769 ≤ 29 := by rw [ex17_769]; exact (bx_s1 hk0).mp (hI.bx _ _)
            refine ⟨fun c => ?_, fun c => ?_⟩
            · exact ih _ _ _ hI (by omega) (by omega)
            · exact ih _ _ _ hI (by omega) (by omega)
        · intro x20_773 ex20_773 rx20_773
          have bx20_773 : -1 ≤ x20_773 ∧ x20_773 ≤ 29 := by rw [ex20_773]; exact (bx_s1 hk0).mp (hI.bx _ _)
          refine ⟨fun c => ?_, fun c => ?_⟩
          · unfold qX6_nearestTo_J58
            unfold qX6_nearestTo_J59
            refine ⟨(by first | assumption | exact (by omega)), ?_⟩
            refine ⟨fun c => ?_, fun c => ?_⟩
            · exact ih _ _ _ hI (by omega) (by omega)
            · refine ⟨by omega, ?_⟩
              refine ⟨by omega, ?_⟩
              intro x17_777 ex17_777 rx17_777
              have bx17_777 : -1 ≤ x17_777 ∧ x17_777 ≤ 29 := by rw [ex17_777]; exact (bx_s1 hk0).mp (hI.bx _ _)
              refine ⟨fun c => ?_, fun c => ?_⟩
              · exact ih _ _ _ hI (by omega) (by omega)
              · exact ih _ _ _ hI (by omega) (by omega)
          · unfold qX6_nearestTo_J54
            unfold qX6_nearestTo_J59
            refine ⟨(by first | assumption | exact (by omega)), ?_⟩
            refine ⟨fun c => ?_, fun c => ?_⟩
            · exact ih _ _ _ hI (by omega) (by omega)
            · refine ⟨by omega, ?_⟩
              refine ⟨by omega, ?_⟩
              intro x17_783 ex17_783 rx17_783
              have bx17_783 : -1 ≤ x17_783 ∧ x17_783 ≤ 29 := by rw [ex17_783]; exact (bx_s1 hk0).mp (hI.bx _ _)
              refine ⟨fun c => ?_, fun c => ?_⟩
              · exact ih _ _ _ hI (by omega) (by omega)
              · exact ih _ _ _ hI (by omega) (by omega)
theorem sX6_nearestTo {k0 : Nat} {p1 : Int} {M : Mem} {Q : Int → Mem → Prop} (hI : IX M) (hk0 : isS k0) (hp : -1 ≤ p1 ∧ p1 ≤ 29) (hQ : ∀ z : Int, (-1 ≤ z ∧ z ≤ 5) → Q z M) : qX6_nearestTo k0 p1 M Q := by
  unfold qX6_nearestTo
  have ek0 : 0 < k0 ∧ k0 < 155 ∧ (k0 - 1) % 7 = 0 := hk0
  refine ⟨7, ?_⟩
  refine sX6_nearestTo_L8 hk0 hp ?_ _ _ _ _ hI (by omega) (by omega)
  · exact hQ
theorem sX10_moveMourner {k1 : Nat} {p2 : Int} {M : Mem} {Q : Mem → Prop} (hI : IX M) (hk1 : isS k1) (hp : 0 ≤ p2 ∧ p2 ≤ 7) (hQ : ∀ M' : Mem, IX M' → Q M') : qX10_moveMourner k1 p2 M Q := by
  unfold qX10_moveMourner
  have ek1 : 0 < k1 ∧ k1 < 155 ∧ (k1 - 1) % 7 = 0 := hk1
  refine ⟨by omega, ?_⟩
  refine ⟨by omega, ?_⟩
  intro x3_786 ex3_786 rx3_786
  have bx3_786 : -1 ≤ x3_786 ∧ x3_786 ≤ 5 := by rw [ex3_786]; exact (bx_s5 hk1).mp (hI.bx _ _)
  refine ⟨fun c => ?_, fun c => ?_⟩
  · unfold qX10_moveMourner_J32
    refine ⟨by omega, ?_⟩
    refine ⟨by omega, ?_⟩
    intro x7_788 ex7_788 rx7_788
    have bx7_788 : -1 ≤ x7_788 ∧ x7_788 ≤ 29 := by rw [ex7_788]; exact (bx_s3 hk1).mp (hI.bx _ _)
    refine sX6_nearestTo (p1 := x7_788) hI hk1 (by omega) ?_
    intro x8_789 p790 q791
    refine ⟨fun c => ?_, fun c => ?_⟩
    · refine ⟨by omega, ?_⟩
      refine ⟨by omega, ?_⟩
      intro x12_793 ex12_793 rx12_793
      have bx12_793 : -1 ≤ x12_793 ∧ x12_793 ≤ 29 := by rw [ex12_793]; exact (bx_s1 hk1).mp (hI.bx _ _)
      refine ⟨(by first | assumption | exact (by omega)), ?_⟩
      refine ⟨fun c => ?_, fun c => ?_⟩
      · unfold qX10_moveMourner_J92
        refine ⟨by omega, ?_⟩
        refine ⟨by omega, ?_⟩
        refine ⟨(by first | assumption | exact (by omega)), ?_⟩
        intro M18_795 h_M18_795
        have hM18_795 : IX M18_795 := by rw [h_M18_795]; exact hI.up (isS.nsp hk1 5 (by decide)) ((bx_s5 hk1).mpr (by omega))
        intro x19_796 ex19_796 rx19_796
        have bx19_796 : -2147483648 ≤ x19_796 ∧ x19_796 ≤ 2147483647 := rx19_796
        have fx19_796 : x19_796 = M 160 4 := by rw [ex19_796, h_M18_795, up2_n (by omega)]
        intro x20_797 ex20_797 rx20_797
        first | (have fx20_797 : x20_797 = x19_796 + 1 := by rw [ex20_797]; exact w32_id (by omega)) | skip
        intro M21_798 h_M21_798
        have hM21_798 : IX M21_798 := by rw [h_M21_798]; exact hM18_795.up (by decide) (by simp [BX])
        intro x22_799 ex22_799 rx22_799
        have bx22_799 : -2147483648 ≤ x22_799 ∧ x22_799 ≤ 2147483647 := rx22_799
        have fx22_799 : x22_799 = M 162 p2 := by rw [ex22_799, h_M21_798, up2_n (by decide), h_M18_795, up2_n (by omega)]
        intro x23_800 ex23_800 rx23_800
        first | (have fx23_800 : x23_800 = x22_799 + 1 := by rw [ex23_800]; exact w32_id (by omega)) | skip
        intro M24_801 h_M24_801
        have hM24_801 : IX M24_801 := by rw [h_M24_801]; exact hM21_798.up (by decide) (by simp [BX])
        intro M25_802 h_M25_802
        have hM25_802 : IX M25_802 := by rw [h_M25_802]; exact hM24_801.up (by decide) (by simp [BX])
        unfold qX10_moveMourner_J139
        refine ⟨(by first | assumption | exact (by omega)), ?_⟩
        intro x27_803 ex27_803 rx27_803
        intro x28_804 ex28_804 rx28_804
        refine ⟨by omega, ?_⟩
        refine ⟨by omega, ?_⟩
        refine ⟨(by first | assumption | exact (by omega)), ?_⟩
        intro M32_805 h_M32_805
        have hM32_805 : IX M32_805 := by rw [h_M32_805]; exact hM25_802.up (isS.nsp hk1 3 (by decide)) ((bx_s3 hk1).mpr (by omega))
        intro x33_806 ex33_806 rx33_806
        have bx33_806 : -2147483648 ≤ x33_806 ∧ x33_806 ≤ 2147483647 := rx33_806
        have fx33_806 : x33_806 = 1 := by rw [ex33_806, h_M32_805, up2_n (by omega), h_M25_802, up2_s]
        refine ⟨fun c => ?_, fun c => ?_⟩
        · unfold qX10_moveMourner_J172
          unfold qX10_moveMourner_J177
          refine ⟨(by first | assumption | exact (by omega)), ?_⟩
          refine ⟨by omega, ?_⟩
          intro M37_808 h_M37_808
          have hM37_808 : IX M37_808 := by rw [h_M37_808]; exact hM32_805.up (by decide) (by simp [BX])
          exact hQ _ hM37_808
        · refine ⟨fun c => ?_, fun c => ?_⟩
          · unfold qX10_moveMourner_J177
            refine ⟨(by first | assumption | exact (by omega)), ?_⟩
            refine ⟨by omega, ?_⟩
            intro M37_811 h_M37_811
            have hM37_811 : IX M37_811 := by rw [h_M37_811]; exact hM32_805.up (by decide) (by simp [BX])
            exact hQ _ hM37_811
          · unfold qX10_moveMourner_J172
            unfold qX10_moveMourner_J177
            refine ⟨(by first | assumption | exact (by omega)), ?_⟩
            refine ⟨by omega, ?_⟩
            intro M37_813 h_M37_813
            have hM37_813 : IX M37_813 := by rw [h_M37_813]; exact hM32_805.up (by decide) (by simp [BX])
            exact hQ _ hM37_813
      · refine ⟨(by first | assumption | exact (by omega)), ?_⟩
        intro x40_815 px40_815 nx40_815
        have bx40_815 : 0 ≤ x40_815 ∧ (x12_793 - x7_788 = x40_815 ∨ x12_793 - x7_788 = -x40_815) := by omega
        refine ⟨by omega, ?_⟩
        refine ⟨by omega, ?_⟩
        intro x43_816 ex43_816 rx43_816
        have bx43_816 : -1 ≤ x43_816 ∧ x43_816 ≤ 29 := by rw [ex43_816]; exact (bx_s1 hk1).mp (hI.bx _ _)
        refine ⟨(by first | assumption | exact (by omega)), ?_⟩
        intro x45_817 px45_817 nx45_817
        have bx45_817 : 0 ≤ x45_817 ∧ (x43_816 - x7_788 = x45_817 ∨ x43_816 - x7_788 = -x45_817) := by omega
        refine ⟨(by first | assumption | exact (by omega)), ?_⟩
        refine ⟨(by first | assumption | exact (by omega)), ?_⟩
        refine ⟨fun c => ?_, fun c => ?_⟩
        · intro x49_819 ex49_819 rx49_819
          have bx49_819 : -1 ≤ x49_819 ∧ x49_819 ≤ 29 := by rw [ex49_819]; exact (bx_s1 hk1).mp (hI.bx _ _)
          unfold qX10_moveMourner_J139
          refine ⟨(by first | assumption | exact (by omega)), ?_⟩
          intro x27_820 ex27_820 rx27_820
          intro x28_821 ex28_821 rx28_821
          refine ⟨by omega, ?_⟩
          refine ⟨by omega, ?_⟩
          refine ⟨(by first | assumption | exact (by omega)), ?_⟩
          intro M32_822 h_M32_822
          have hM32_822 : IX M32_822 := by rw [h_M32_822]; exact hI.up (isS.nsp hk1 3 (by decide)) ((bx_s3 hk1).mpr (by omega))
          intro x33_823 ex33_823 rx33_823
          have bx33_823 : -2147483648 ≤ x33_823 ∧ x33_823 ≤ 2147483647 := rx33_823
          have fx33_823 : x33_823 = M 160 5 := by rw [ex33_823, h_M32_822, up2_n (by omega)]
          refine ⟨fun c => ?_, fun c => ?_⟩
          · unfold qX10_moveMourner_J172
            unfold qX10_moveMourner_J177
            refine ⟨(by first | assumption | exact (by omega)), ?_⟩
            refine ⟨by omega, ?_⟩
            intro M37_825 h_M37_825
            have hM37_825 : IX M37_825 := by rw [h_M37_825]; exact hM32_822.up (by decide) (by simp [BX])
            exact hQ _ hM37_825
          · refine ⟨fun c => ?_, fun c => ?_⟩
            · unfold qX10_moveMourner_J177
              refine ⟨(by first | assumption | exact (by omega)), ?_⟩
              refine ⟨by omega, ?_⟩
              intro M37_828 h_M37_828
              have hM37_828 : IX M37_828 := by rw [h_M37_828]; exact hM32_822.up (by decide) (by simp [BX])
              exact hQ _ hM37_828
            · unfold qX10_moveMourner_J172
              unfold qX10_moveMourner_J177
              refine ⟨(by first | assumption | exact (by omega)), ?_⟩
              refine ⟨by omega, ?_⟩
              intro M37_830 h_M37_830
              have hM37_830 : IX M37_830 := by rw [h_M37_830]; exact hM32_822.up (by decide) (by simp [BX])
              exact hQ _ hM37_830
        · unfold qX10_moveMourner_J92
          refine ⟨by omega, ?_⟩
          refine ⟨by omega, ?_⟩
          refine ⟨(by first | assumption | exact (by omega)), ?_⟩
          intro M18_832 h_M18_832
          have hM18_832 : IX M18_832 := by rw [h_M18_832]; exact hI.up (isS.nsp hk1 5 (by decide)) ((bx_s5 hk1).mpr (by omega))
          intro x19_833 ex19_833 rx19_833
          have bx19_833 : -2147483648 ≤ x19_833 ∧ x19_833 ≤ 2147483647 := rx19_833
          have fx19_833 : x19_833 = M 160 4 := by rw [ex19_833, h_M18_832, up2_n (by omega)]
          intro x20_834 ex20_834 rx20_834
          first | (have fx20_834 : x20_834 = x19_833 + 1 := by rw [ex20_834]; exact w32_id (by omega)) | skip
          intro M21_835 h_M21_835
          have hM21_835 : IX M21_835 := by rw [h_M21_835]; exact hM18_832.up (by decide) (by simp [BX])
          intro x22_836 ex22_836 rx22_836
          have bx22_836 : -2147483648 ≤ x22_836 ∧ x22_836 ≤ 2147483647 := rx22_836
          have fx22_836 : x22_836 = M 162 p2 := by rw [ex22_836, h_M21_835, up2_n (by decide), h_M18_832, up2_n (by omega)]
          intro x23_837 ex23_837 rx23_837
          first | (have fx23_837 : x23_837 = x22_836 + 1 := by rw [ex23_837]; exact w32_id (by omega)) | skip
          intro M24_838 h_M24_838
          have hM24_838 : IX M24_838 := by rw [h_M24_838]; exact hM21_835.up (by decide) (by simp [BX])
          intro M25_839 h_M25_839
          have hM25_839 : IX M25_839 := by rw [h_M25_839]; exact hM24_838.up (by decide) (by simp [BX])
          unfold qX10_moveMourner_J139
          refine ⟨(by first | assumption | exact (by omega)), ?_⟩
          intro x27_840 ex27_840 rx27_840
          intro x28_841 ex28_841 rx28_841
          refine ⟨by omega, ?_⟩
          refine ⟨by omega, ?_⟩
          refine ⟨(by first | assumption | exact (by omega)), ?_⟩
          intro M32_842 h_M32_842
          have hM32_842 : IX M32_842 := by rw [h_M32_842]; exact hM25_839.up (isS.nsp hk1 3 (by decide)) ((bx_s3 hk1).mpr (by omega))
          intro x33_843 ex33_843 rx33_843
          have bx33_843 : -2147483648 ≤ x33_843 ∧ x33_843 ≤ 2147483647 := rx33_843
          have fx33_843 : x33_843 = 1 := by rw [ex33_843, h_M32_842, up2_n (by omega), h_M25_839, up2_s]
          refine ⟨fun c => ?_, fun c => ?_⟩
          · unfold qX10_moveMourner_J172
            unfold qX10_moveMourner_J177
            refine ⟨(by first | assumption | exact (by omega)), ?_⟩
            refine ⟨by omega, ?_⟩
            intro M37_845 h_M37_845
            have hM37_845 : IX M37_845 := by rw [h_M37_845]; exact hM32_842.up (by decide) (by simp [BX])
            exact hQ _ hM37_845
          · refine ⟨fun c => ?_, fun c => ?_⟩
            · unfold qX10_moveMourner_J177
              refine ⟨(by first | assumption | exact (by omega)), ?_⟩
              refine ⟨by omega, ?_⟩
              intro M37_848 h_M37_848
              have hM37_848 : IX M37_848 := by rw [h_M37_848]; exact hM32_842.up (by decide) (by simp [BX])
              exact hQ _ hM37_848
            · unfold qX10_moveMourner_J172
              unfold qX10_moveMourner_J177
              refine ⟨(by first | assumption | exact (by omega)), ?_⟩
              refine ⟨by omega, ?_⟩
              intro M37_850 h_M37_850
              have hM37_850 : IX M37_850 := by rw [h_M37_850]; exact hM32_842.up (by decide) (by simp [BX])
              exact hQ _ hM37_850
    · exact hQ _ hI
  · refine sX6_hasArrived (p1 := x3_786) hI hk1 (by omega) ?_
    intro x50_853 q854 q855
    refine ⟨fun c => ?_, fun c => ?_⟩
    · unfold qX10_moveMourner_J32
      refine ⟨by omega, ?_⟩
      refine ⟨by omega, ?_⟩
      intro x7_857 ex7_857 rx7_857
      have bx7_857 : -1 ≤ x7_857 ∧ x7_857 ≤ 29 := by rw [ex7_857]; exact (bx_s3 hk1).mp (hI.bx _ _)
      refine sX6_nearestTo (p1 := x7_857) hI hk1 (by omega) ?_
      intro x8_858 p859 q860
      refine ⟨fun c => ?_, fun c => ?_⟩
      · refine ⟨by omega, ?_⟩
        refine ⟨by omega, ?_⟩
        intro x12_862 ex12_862 rx12_862
        have bx12_862 : -1 ≤ x12_862 ∧ x12_862 ≤ 29 := by rw [ex12_862]; exact (bx_s1 hk1).mp (hI.bx _ _)
        refine ⟨(by first | assumption | exact (by omega)), ?_⟩
        refine ⟨fun c => ?_, fun c => ?_⟩
        · unfold qX10_moveMourner_J92
          refine ⟨by omega, ?_⟩
          refine ⟨by omega, ?_⟩
          refine ⟨(by first | assumption | exact (by omega)), ?_⟩
          intro M18_864 h_M18_864
          have hM18_864 : IX M18_864 := by rw [h_M18_864]; exact hI.up (isS.nsp hk1 5 (by decide)) ((bx_s5 hk1).mpr (by omega))
          intro x19_865 ex19_865 rx19_865
          have bx19_865 : -2147483648 ≤ x19_865 ∧ x19_865 ≤ 2147483647 := rx19_865
          have fx19_865 : x19_865 = M 160 4 := by rw [ex19_865, h_M18_864, up2_n (by omega)]
          intro x20_866 ex20_866 rx20_866
          first | (have fx20_866 : x20_866 = x19_865 + 1 := by rw [ex20_866]; exact w32_id (by omega)) | skip
          intro M21_867 h_M21_867
          have hM21_867 : IX M21_867 := by rw [h_M21_867]; exact hM18_864.up (by decide) (by simp [BX])
          intro x22_868 ex22_868 rx22_868
          have bx22_868 : -2147483648 ≤ x22_868 ∧ x22_868 ≤ 2147483647 := rx22_868
          have fx22_868 : x22_868 = M 162 p2 := by rw [ex22_868, h_M21_867, up2_n (by decide), h_M18_864, up2_n (by omega)]
          intro x23_869 ex23_869 rx23_869
          first | (have fx23_869 : x23_869 = x22_868 + 1 := by rw [ex23_869]; exact w32_id (by omega)) | skip
          intro M24_870 h_M24_870
          have hM24_870 : IX M24_870 := by rw [h_M24_870]; exact hM21_867.up (by decide) (by simp [BX])
          intro M25_871 h_M25_871
          have hM25_871 : IX M25_871 := by rw [h_M25_871]; exact hM24_870.up (by decide) (by simp [BX])
          unfold qX10_moveMourner_J139
          refine ⟨(by first | assumption | exact (by omega)), ?_⟩
          intro x27_872 ex27_872 rx27_872
          intro x28_873 ex28_873 rx28_873
          refine ⟨by omega, ?_⟩
          refine ⟨by omega, ?_⟩
          refine ⟨(by first | assumption | exact (by omega)), ?_⟩
          intro M32_874 h_M32_874
          have hM32_874 : IX M32_874 := by rw [h_M32_874]; exact hM25_871.up (isS.nsp hk1 3 (by decide)) ((bx_s3 hk1).mpr (by omega))
          intro x33_875 ex33_875 rx33_875
          have bx33_875 : -2147483648 ≤ x33_875 ∧ x33_875 ≤ 2147483647 := rx33_875
          have fx33_875 : x33_875 = 1 := by rw [ex33_875, h_M32_874, up2_n (by omega), h_M25_871, up2_s]
          refine ⟨fun c => ?_, fun c => ?_⟩
          · unfold qX10_moveMourner_J172
            unfold qX10_moveMourner_J177
            refine ⟨(by first | assumption | exact (by omega)), ?_⟩
            refine ⟨by omega, ?_⟩
            intro M37_877 h_M37_877
            have hM37_877 : IX M37_877 := by rw [h_M37_877]; exact hM32_874.up (by decide) (by simp [BX])
            exact hQ _ hM37_877
          · refine ⟨fun c => ?_, fun c => ?_⟩
            · unfold qX10_moveMourner_J177
              refine ⟨(by first | assumption | exact (by omega)), ?_⟩
              refine ⟨by omega, ?_⟩
              intro M37_880 h_M37_880
              have hM37_880 : IX M37_880 := by rw [h_M37_880]; exact hM32_874.up (by decide) (by simp [BX])
              exact hQ _ hM37_880
            · unfold qX10_moveMourner_J172
              unfold qX10_moveMourner_J177
              refine ⟨(by first | assumption | exact (by omega)), ?_⟩
              refine ⟨by omega, ?_⟩
              intro M37_882 h_M37_882
              have hM37_882 : IX M37_882 := by rw [h_M37_882]; exact hM32_874.up (by decide) (by simp [BX])
              exact hQ _ hM37_882
        · refine ⟨(by first | assumption | exact (by omega)), ?_⟩
          intro x40_884 px40_884 nx40_884
          have bx40_884 : 0 ≤ x40_884 ∧ (x12_862 - x7_857 = x40_884 ∨ x12_862 - x7_857 = -x40_884) := by omega
          refine ⟨by omega, ?_⟩
          refine ⟨by omega, ?_⟩
          intro x43_885 ex43_885 rx43_885
          have bx43_885 : -1 ≤ x43_885 ∧ x43_885 ≤ 29 := by rw [ex43_885]; exact (bx_s1 hk1).mp (hI.bx _ _)
          refine ⟨(by first | assumption | exact (by omega)), ?_⟩
          intro x45_886 px45_886 nx45_886
          have bx45_886 : 0 ≤ x45_886 ∧ (x43_885 - x7_857 = x45_886 ∨ x43_885 - x7_857 = -x45_886) := by omega
          refine ⟨(by first | assumption | exact (by omega)), ?_⟩
          refine ⟨(by first | assumption | exact (by omega)), ?_⟩
          refine ⟨fun c => ?_, fun c => ?_⟩
          · intro x49_888 ex49_888 rx49_888
            have bx49_888 : -1 ≤ x49_888 ∧ x49_888 ≤ 29 := by rw [ex49_888]; exact (bx_s1 hk1).mp (hI.bx _ _)
            unfold qX10_moveMourner_J139
            refine ⟨(by first | assumption | exact (by omega)), ?_⟩
            intro x27_889 ex27_889 rx27_889
            intro x28_890 ex28_890 rx28_890
            refine ⟨by omega, ?_⟩
            refine ⟨by omega, ?_⟩
            refine ⟨(by first | assumption | exact (by omega)), ?_⟩
            intro M32_891 h_M32_891
            have hM32_891 : IX M32_891 := by rw [h_M32_891]; exact hI.up (isS.nsp hk1 3 (by decide)) ((bx_s3 hk1).mpr (by omega))
            intro x33_892 ex33_892 rx33_892
            have bx33_892 : -2147483648 ≤ x33_892 ∧ x33_892 ≤ 2147483647 := rx33_892
            have fx33_892 : x33_892 = M 160 5 := by rw [ex33_892, h_M32_891, up2_n (by omega)]
            refine ⟨fun c => ?_, fun c => ?_⟩
            · unfold qX10_moveMourner_J172
              unfold qX10_moveMourner_J177
              refine ⟨(by first | assumption | exact (by omega)), ?_⟩
              refine ⟨by omega, ?_⟩
              intro M37_894 h_M37_894
              have hM37_894 : IX M37_894 := by rw [h_M37_894]; exact hM32_891.up (by decide) (by simp [BX])
              exact hQ _ hM37_894
            · refine ⟨fun c => ?_, fun c => ?_⟩
              · unfold qX10_moveMourner_J177
                refine ⟨(by first | assumption | exact (by omega)), ?_⟩
                refine ⟨by omega, ?_⟩
                intro M37_897 h_M37_897
                have hM37_897 : IX M37_897 := by rw [h_M37_897]; exact hM32_891.up (by decide) (by simp [BX])
                exact hQ _ hM37_897
              · unfold qX10_moveMourner_J172
                unfold qX10_moveMourner_J177
                refine ⟨(by first | assumption | exact (by omega)), ?_⟩
                refine ⟨by omega, ?_⟩
                intro M37_899 h_M37_899
                have hM37_899 : IX M37_899 := by rw [h_M37_899]; exact hM32_891.up (by decide) (by simp [BX])
                exact hQ _ hM37_899
          · unfold qX10_moveMourner_J92
            refine ⟨by omega, ?_⟩
            refine ⟨by omega, ?_⟩
            refine ⟨(by first | assumption | exact (by omega)), ?_⟩
            intro M18_901 h_M18_901
            have hM18_901 : IX M18_901 := by rw [h_M18_901]; exact hI.up (isS.nsp hk1 5 (by decide)) ((bx_s5 hk1).mpr (by omega))
            intro x19_902 ex19_902 rx19_902
            have bx19_902 : -2147483648 ≤ x19_902 ∧ x19_902 ≤ 2147483647 := rx19_902
            have fx19_902 : x19_902 = M 160 4 := by rw [ex19_902, h_M18_901, up2_n (by omega)]
            intro x20_903 ex20_903 rx20_903
            first | (have fx20_903 : x20_903 = x19_902 + 1 := by rw [ex20_903]; exact w32_id (by omega)) | skip
            intro M21_904 h_M21_904
            have hM21_904 : IX M21_904 := by rw [h_M21_904]; exact hM18_901.up (by decide) (by simp [BX])
            intro x22_905 ex22_905 rx22_905
            have bx22_905 : -2147483648 ≤ x22_905 ∧ x22_905 ≤ 2147483647 := rx22_905
            have fx22_905 : x22_905 = M 162 p2 := by rw [ex22_905, h_M21_904, up2_n (by decide), h_M18_901, up2_n (by omega)]
            intro x23_906 ex23_906 rx23_906
            first | (have fx23_906 : x23_906 = x22_905 + 1 := by rw [ex23_906]; exact w32_id (by omega)) | skip
            intro M24_907 h_M24_907
            have hM24_907 : IX M24_907 := by rw [h_M24_907]; exact hM21_904.up (by decide) (by simp [BX])
            intro M25_908 h_M25_908
            have hM25_908 : IX M25_908 := by rw [h_M25_908]; exact hM24_907.up (by decide) (by simp [BX])
            unfold qX10_moveMourner_J139
            refine ⟨(by first | assumption | exact (by omega)), ?_⟩
            intro x27_909 ex27_909 rx27_909
            intro x28_910 ex28_910 rx28_910
            refine ⟨by omega, ?_⟩
            refine ⟨by omega, ?_⟩
            refine ⟨(by first | assumption | exact (by omega)), ?_⟩
            intro M32_911 h_M32_911
            have hM32_911 : IX M32_911 := by rw [h_M32_911]; exact hM25_908.up (isS.nsp hk1 3 (by decide)) ((bx_s3 hk1).mpr (by omega))
            intro x33_912 ex33_912 rx33_912
            have bx33_912 : -2147483648 ≤ x33_912 ∧ x33_912 ≤ 2147483647 := rx33_912
            have fx33_912 : x33_912 = 1 := by rw [ex33_912, h_M32_911, up2_n (by omega), h_M25_908, up2_s]
            refine ⟨fun c => ?_, fun c => ?_⟩
            · unfold qX10_moveMourner_J172
              unfold qX10_moveMourner_J177
              refine ⟨(by first | assumption | exact (by omega)), ?_⟩
              refine ⟨by omega, ?_⟩
              intro M37_914 h_M37_914
              have hM37_914 : IX M37_914 := by rw [h_M37_914]; exact hM32_911.up (by decide) (by simp [BX])
              exact hQ _ hM37_914
            · refine ⟨fun c => ?_, fun c => ?_⟩
              · unfold qX10_moveMourner_J177
                refine ⟨(by first | assumption | exact (by omega)), ?_⟩
                refine ⟨by omega, ?_⟩
                intro M37_917 h_M37_917
                have hM37_917 : IX M37_917 := by rw [h_M37_917]; exact hM32_911.up (by decide) (by simp [BX])
                exact hQ _ hM37_917
              · unfold qX10_moveMourner_J172
                unfold qX10_moveMourner_J177
                refine ⟨(by first | assumption | exact (by omega)), ?_⟩
                refine ⟨by omega, ?_⟩
                intro M37_919 h_M37_919
                have hM37_919 : IX M37_919 := by rw [h_M37_919]; exact hM32_911.up (by decide) (by simp [BX])
                exact hQ _ hM37_919
      · exact hQ _ hI
    · refine sX6_endAt (p1 := p2) (p2 := x3_786) hI hk1 (by omega) ?_
      intro M52_922 hM52_922
      intro M53_923 h_M53_923
      have hM53_923 : IX M53_923 := by rw [h_M53_923]; exact hM52_922.up (by decide) (by simp [BX])
      exact hQ _ hM53_923
theorem sX6_foremostBelow_L7 {k0 : Nat} {p1 : Int}  {Q : Int → Mem → Prop} {M0 : Mem} (hk0 : isS k0) (hQ : ∀ z : Int, (z = -1 ∨ 0 ≤ z ∧ z ≤ 5 ∧ 0 ≤ M0 (k0 + 1) z) → Q z M0) : ∀ (n : Nat) (v2 v3 v4 : Int), IX M0 → ((v2 = -1 ∧ v3 = -1 ∨ 0 ≤ v2 ∧ v2 ≤ 5 ∧ 0 ≤ v3 ∧ v3 ≤ 29 ∧ v3 = M0 (k0 + 1) v2) ∧ 0 ≤ v4 ∧ v4 ≤ 6) → 6 - v4 < (n : Int) → qX6_foremostBelow_L7 k0 p1 Q n v2 v3 v4 M0 := by
  intro n
  induction n with
  | zero => intro v2 v3 v4 hI hv hm; exact absurd hm (by omega)
  | succ n ih =>
    intro v2 v3 v4 hI hv hm
    rw [qX6_foremostBelow_L7]
    have ek0 : 0 < k0 ∧ k0 < 155 ∧ (k0 - 1) % 7 = 0 := hk0
    intro x1_924 ex1_924 rx1_924
    have bx1_924 : 0 ≤ x1_924 ∧ x1_924 ≤ 6 := by rw [ex1_924]; exact (bx_s0_6 hk0).mp (hI.bx _ _)
    refine ⟨(by first | assumption | exact (by omega)), ?_⟩
    refine ⟨fun c => ?_, fun c => ?_⟩
    · refine ⟨(by first | assumption | exact (by omega)), ?_⟩
      exact hQ _ (by omega)
    · refine ⟨by omega, ?_⟩
      refine ⟨by omega, ?_⟩
      intro x7_927 ex7_927 rx7_927
      have bx7_927 : -1 ≤ x7_927 ∧ x7_927 ≤ 29 := by rw [ex7_927]; exact (bx_s1 hk0).mp (hI.bx _ _)
      refine ⟨fun c => ?_, fun c => ?_⟩
      · exact ih _ _ _ hI (by omega) (by omega)
      · intro x9_930 ex9_930 rx9_930
        have bx9_930 : -1 ≤ x9_930 ∧ x9_930 ≤ 29 := by rw [ex9_930]; exact (bx_s1 hk0).mp (hI.bx _ _)
        refine ⟨(by first | assumption | exact (by omega)), ?_⟩
        refine ⟨fun c => ?_, fun c => ?_⟩
        · exact ih _ _ _ hI (by omega) (by omega)
        · intro x12_933 ex12_933 rx12_933
          have bx12_933 : -1 ≤ x12_933 ∧ x12_933 ≤ 29 := by rw [ex12_933]; exact (bx_s1 hk0).mp (hI.bx _ _)
          exact ih _ _ _ hI (by omega) (by omega)
theorem sX6_foremostBelow {k0 : Nat} {p1 : Int} {M : Mem} {Q : Int → Mem → Prop} (hI : IX M) (hk0 : isS k0) (hQ : ∀ z : Int, (z = -1 ∨ 0 ≤ z ∧ z ≤ 5 ∧ 0 ≤ M (k0 + 1) z) → Q z M) : qX6_foremostBelow k0 p1 M Q := by
  unfold qX6_foremostBelow
  have ek0 : 0 < k0 ∧ k0 < 155 ∧ (k0 - 1) % 7 = 0 := hk0
  refine ⟨7, ?_⟩
  refine sX6_foremostBelow_L7 hk0 ?_ _ _ _ _ hI (by omega) (by omega)
  · exact hQ
theorem sX10_advance_L16 {k1 : Nat} {k2 : Nat} {X36 : Mem → Prop} {X61 : Mem → Prop} {Q : Mem → Prop} (hk1 : isS k1) (hk2 : isL k2) (hQ : ∀ M' : Mem, IX M' → Q M') (hX36 : ∀ M' : Mem, IX M' → X36 M') (hX61 : ∀ M' : Mem, IX M' → X61 M') : ∀ (n : Nat) (v3 v4 : Int) (M : Mem), IX M → (0 ≤ v3 ∧ v3 ≤ 30 ∧ 0 ≤ v4 ∧ v4 ≤ 6) → 6 - v4 < (n : Int) → qX10_advance_L16 k1 k2 X36 X61 Q n v3 v4 M := by
  intro n
  induction n with
  | zero => intro v3 v4 M hI hv hm; exact absurd hm (by omega)
  | succ n ih =>
    intro v3 v4 M hI hv hm
    rw [qX10_advance_L16]
    have ek1 : 0 < k1 ∧ k1 < 155 ∧ (k1 - 1) % 7 = 0 := hk1
    have ek2 : k2 = 187 ∨ k2 = 192 := hk2
    refine ⟨(by first | assumption | exact (by omega)), ?_⟩
    refine ⟨fun c => ?_, fun c => ?_⟩
    · exact hX61 _ hI
    · refine ⟨(by first | assumption | exact (by omega)), ?_⟩
      refine sX6_foremostBelow (p1 := v3) hI hk1 ?_
      intro x6_936 p937 q938
      refine ⟨fun c => ?_, fun c => ?_⟩
      · refine ⟨by omega, ?_⟩
        refine ⟨by omega, ?_⟩
        intro x10_940 ex10_940 rx10_940
        have bx10_940 : -1 ≤ x10_940 ∧ x10_940 ≤ 29 := by rw [ex10_940]; exact (bx_s1 hk1).mp (hI.bx _ _)
        refine sX10_moveHearse (p3 := x6_936) hI hk1 hk2 (by omega) ?_
        intro M11_941 hM11_941
        exact ih _ _ _ hM11_941 (by omega) (by omega)
      · exact hX36 _ hI
end
section
theorem sX10_advance_L64 {k1 : Nat} {k2 : Nat}  {Q : Mem → Prop} (hk1 : isS k1) (hk2 : isL k2) (hQ : ∀ M' : Mem, IX M' → Q M') : ∀ (n : Nat) (v4 : Int) (M : Mem), IX M → (0 ≤ v4 ∧ v4 ≤ 8) → 8 - v4 < (n : Int) → qX10_advance_L64 k1 k2 Q n v4 M := by
  intro n
  induction n with
  | zero => intro v4 M hI hv hm; exact absurd hm (by omega)
  | succ n ih =>
    intro v4 M hI hv hm
    rw [qX10_advance_L64]
    have ek1 : 0 < k1 ∧ k1 < 155 ∧ (k1 - 1) % 7 = 0 := hk1
    have ek2 : k2 = 187 ∨ k2 = 192 := hk2
    intro x13_943 ex13_943 rx13_943
    have bx13_943 : 0 ≤ x13_943 ∧ x13_943 ≤ 8 := by rw [ex13_943]; exact (bx_s0_7 hk1).mp (hI.bx _ _)
    refine ⟨(by first | assumption | exact (by omega)), ?_⟩
    refine ⟨fun c => ?_, fun c => ?_⟩
    · intro x16_945 ex16_945 rx16_945
      have bx16_945 : -2147483648 ≤ x16_945 ∧ x16_945 ≤ 2147483647 := rx16_945
      intro x17_946 ex17_946 rx17_946
      first | (have fx17_946 : x17_946 = x16_945 + 1 := by rw [ex17_946]; exact w32_id (by omega)) | skip
      intro M18_947 h_M18_947
      have hM18_947 : IX M18_947 := by rw [h_M18_947]; exact hI.up (isS.nsp hk1 0 (by decide)) (bx_sf0 hk1 (by decide) (by decide))
      exact hQ _ hM18_947
    · refine sX6_hasEnded (p1 := v4) hI hk1 (by omega) ?_
      intro x19_949 q950 q951
      refine ⟨fun c => ?_, fun c => ?_⟩
      · exact ih _ _ hI (by omega) (by omega)
      · refine sX10_moveMourner (p2 := v4) hI hk1 (by omega) ?_
        intro M21_954 hM21_954
        exact ih _ _ hM21_954 (by omega) (by omega)
theorem sX10_advance {k1 : Nat} {k2 : Nat} {M : Mem} {Q : Mem → Prop} (hI : IX M) (hk1 : isS k1) (hk2 : isL k2) (hQ : ∀ M' : Mem, IX M' → Q M') : qX10_advance k1 k2 M Q := by
  unfold qX10_advance
  have ek1 : 0 < k1 ∧ k1 < 155 ∧ (k1 - 1) % 7 = 0 := hk1
  have ek2 : k2 = 187 ∨ k2 = 192 := hk2
  intro M1_955 h_M1_955
  have hM1_955 : IX M1_955 := by rw [h_M1_955]; exact hI.up (by decide) (by simp [BX])
  intro x2_956 ex2_956 rx2_956
  have bx2_956 : 4 ≤ x2_956 ∧ x2_956 ≤ 30 := by rw [ex2_956]; exact (bx_c158_1).mp (hM1_955.bx _ _)
  have fx2_956 : x2_956 = M 158 1 := by rw [ex2_956, h_M1_955, up2_n (by decide)]
  refine ⟨7, ?_⟩
  refine sX10_advance_L16 hk1 hk2 ?_ ?_ ?_ _ _ _ _ hM1_955 (by omega) (by omega)
  · exact hQ
  · intro M_957 hM_957
    refine ⟨9, ?_⟩
    refine sX10_advance_L64 hk1 hk2 ?_ _ _ _ hM_957 (by omega) (by omega)
    · exact hQ
  · intro M_958 hM_958
    refine ⟨9, ?_⟩
    refine sX10_advance_L64 hk1 hk2 ?_ _ _ _ hM_958 (by omega) (by omega)
    · exact hQ
theorem sX10_forgetTallies_L12  {X31 : Mem → Prop} {Q : Mem → Prop} (hQ : ∀ M' : Mem, IX M' → Q M') (hX31 : ∀ M' : Mem, IX M' → X31 M') : ∀ (n : Nat) (v1 : Int) (M : Mem), IX M → (0 ≤ v1 ∧ v1 ≤ 30) → 30 - v1 < (n : Int) → qX10_forgetTallies_L12 X31 Q n v1 M := by
  intro n
  induction n with
  | zero => intro v1 M hI hv hm; exact absurd hm (by omega)
  | succ n ih =>
    intro v1 M hI hv hm
    rw [qX10_forgetTallies_L12]
    refine ⟨(by first | assumption | exact (by omega)), ?_⟩
    refine ⟨fun c => ?_, fun c => ?_⟩
    · exact hX31 _ hI
    · refine ⟨by omega, ?_⟩
      refine ⟨by omega, ?_⟩
      intro M7_961 h_M7_961
      have hM7_961 : IX M7_961 := by rw [h_M7_961]; exact hI.up (by decide) (by simp [BX])
      exact ih _ _ hM7_961 (by omega) (by omega)
theorem sX10_forgetTallies_L33   {Q : Mem → Prop} (hQ : ∀ M' : Mem, IX M' → Q M') : ∀ (n : Nat) (v1 : Int) (M : Mem), IX M → (0 ≤ v1 ∧ v1 ≤ 8) → 8 - v1 < (n : Int) → qX10_forgetTallies_L33 Q n v1 M := by
  intro n
  induction n with
  | zero => intro v1 M hI hv hm; exact absurd hm (by omega)
  | succ n ih =>
    intro v1 M hI hv hm
    rw [qX10_forgetTallies_L33]
    refine ⟨(by first | assumption | exact (by omega)), ?_⟩
    refine ⟨fun c => ?_, fun c => ?_⟩
    · exact hQ _ hI
    · refine ⟨by omega, ?_⟩
      refine ⟨by omega, ?_⟩
      intro M13_964 h_M13_964
      have hM13_964 : IX M13_964 := by rw [h_M13_964]; exact hI.up (by decide) (by simp [BX])
      exact ih _ _ hM13_964 (by omega) (by omega)
theorem sX10_forgetTallies  {M : Mem} {Q : Mem → Prop} (hI : IX M) (hQ : ∀ M' : Mem, IX M' → Q M') : qX10_forgetTallies M Q := by
  unfold qX10_forgetTallies
  intro M1_965 h_M1_965
  have hM1_965 : IX M1_965 := by rw [h_M1_965]; exact hI.up (by decide) (by simp [BX])
  intro M2_966 h_M2_966
  have hM2_966 : IX M2_966 := by rw [h_M2_966]; exact hM1_965.up (by decide) (by simp [BX])
  refine ⟨31, ?_⟩
  refine sX10_forgetTallies_L12 ?_ ?_ _ _ _ hM2_966 (by omega) (by omega)
  · exact hQ
  · intro M_967 hM_967
    refine ⟨9, ?_⟩
    refine sX10_forgetTallies_L33 ?_ _ _ _ hM_967 (by omega) (by omega)
    · exact hQ
theorem sX10_walk_L7 {k1 : Nat} {k2 : Nat} {p3 : Int}  {Q : Mem → Prop} (hk1 : isS k1) (hk2 : isL k2) (hp : p3 ≤ 200) (hQ : ∀ M' : Mem, IX M' → Q M') : ∀ (n : Nat) (v4 : Int) (M : Mem), IX M → (0 ≤ v4 ∧ v4 ≤ 200) → 200 - v4 < (n : Int) → qX10_walk_L7 k1 k2 p3 Q n v4 M := by
  intro n
  induction n with
  | zero => intro v4 M hI hv hm; exact absurd hm (by omega)
  | succ n ih =>
    intro v4 M hI hv hm
    rw [qX10_walk_L7]
    have ek1 : 0 < k1 ∧ k1 < 155 ∧ (k1 - 1) % 7 = 0 := hk1
    have ek2 : k2 = 187 ∨ k2 = 192 := hk2
    refine ⟨(by first | assumption | exact (by omega)), ?_⟩
    refine ⟨fun c => ?_, fun c => ?_⟩
    · exact hQ _ hI
    · refine sX10_advance  hI hk1 hk2 ?_
      intro M4_970 hM4_970
      exact ih _ _ hM4_970 (by omega) (by omega)
theorem sX10_walk {k1 : Nat} {k2 : Nat} {p3 : Int} {M : Mem} {Q : Mem → Prop} (hI : IX M) (hk1 : isS k1) (hk2 : isL k2) (hp : p3 ≤ 200) (hQ : ∀ M' : Mem, IX M' → Q M') : qX10_walk k1 k2 p3 M Q := by
  unfold qX10_walk
  have ek1 : 0 < k1 ∧ k1 < 155 ∧ (k1 - 1) % 7 = 0 := hk1
  have ek2 : k2 = 187 ∨ k2 = 192 := hk2
  refine sX10_forgetTallies  hI  ?_
  intro M1_971 hM1_971
  refine ⟨201, ?_⟩
  refine sX10_walk_L7 hk1 hk2 hp ?_ _ _ _ hM1_971 (by omega) (by omega)
  · exact hQ
theorem sX11_isDone {p0 : Int} {M : Mem} {Q : Int → Mem → Prop} (hI : IX M) (hQ : ∀ z : Int, Q z M) : qX11_isDone p0 M Q := by
  unfold qX11_isDone
  refine ⟨fun c => ?_, fun c => ?_⟩
  · exact hQ _
  · refine ⟨fun c => ?_, fun c => ?_⟩
    · exact hQ _
    · exact hQ _
theorem sX1_add {k1 : Nat} {M : Mem} {Q : Mem → Prop} (hI : IX M) (hk1 : isS k1) (hQ : ∀ M' : Mem, IX M' → Q M') : qX1_add k1 M Q := by
  unfold qX1_add
  have ek1 : 0 < k1 ∧ k1 < 155 ∧ (k1 - 1) % 7 = 0 := hk1
  intro x1_976 ex1_976 rx1_976
  have bx1_976 : 0 ≤ x1_976 ∧ x1_976 ≤ 14 := by rw [ex1_976]; exact (bx_c163_1).mp (hI.bx _ _)
  intro x2_977 ex2_977 rx2_977
  have bx2_977 : 0 ≤ x2_977 ∧ x2_977 ≤ 15 := by rw [ex2_977]; exact (bx_c163_2).mp (hI.bx _ _)
  intro x3_978 ex3_978 rx3_978
  first | (have fx3_978 := rmI_b (a := x1_976 + x2_977) (b := 15) (by omega) (by omega); rw [← ex3_978] at fx3_978) | skip
  refine ⟨by omega, ?_⟩
  refine ⟨by omega, ?_⟩
  refine sX6_copyFrom  hI (isS_hist (e := x3_978) (by omega) (by omega)) hk1 ?_
  intro M6_979 hM6_979 gM6_979
  intro x7_980 ex7_980 rx7_980
  have bx7_980 : 0 ≤ x7_980 ∧ x7_980 ≤ 15 := by rw [ex7_980]; exact (bx_c163_2).mp (hM6_979.bx _ _)
  refine ⟨fun c => ?_, fun c => ?_⟩
  · intro x9_982 ex9_982 rx9_982
    have bx9_982 : 0 ≤ x9_982 ∧ x9_982 ≤ 14 := by rw [ex9_982]; exact (bx_c163_1).mp (hM6_979.bx _ _)
    intro x10_983 ex10_983 rx10_983
    first | (have fx10_983 := rmI_b (a := x9_982 + 1) (b := 15) (by omega) (by omega); rw [← ex10_983] at fx10_983) | skip
    intro M11_984 h_M11_984
    have hM11_984 : IX M11_984 := by rw [h_M11_984]; exact hM6_979.up (by decide) ((bx_c163_1).mpr (by omega))
    exact hQ _ hM11_984
  · intro x12_986 ex12_986 rx12_986
    have bx12_986 : 0 ≤ x12_986 ∧ x12_986 ≤ 15 := by rw [ex12_986]; exact (bx_c163_2).mp (hM6_979.bx _ _)
    refine ⟨(by first | assumption | exact (by omega)), ?_⟩
    intro M14_987 h_M14_987
    have hM14_987 : IX M14_987 := by rw [h_M14_987]; exact hM6_979.up (by decide) ((bx_c163_2).mpr (by omega))
    exact hQ _ hM14_987
theorem sX11_undoable {p1 : Int} {M : Mem} {Q : Int → Mem → Prop} (hI : IX M) (hQ : ∀ z : Int, ∀ M' : Mem, IX M' → Q z M') : qX11_undoable p1 M Q := by
  unfold qX11_undoable
  refine sX11_isDone (p0 := p1) hI  ?_
  intro x1_988 q989 q990
  refine ⟨fun c => ?_, fun c => ?_⟩
  · exact hQ _ _ hI
  · refine sX1_add  hI (show isS 22 by decide) ?_
    intro M3_993 hM3_993
    exact hQ _ _ hM3_993
theorem sX4_add {p1 : Int} {M : Mem} {Q : Mem → Prop} (hI : IX M) (hQ : ∀ M' : Mem, IX M' → Q M') : qX4_add p1 M Q := by
  unfold qX4_add
  intro x1_994 ex1_994 rx1_994
  have bx1_994 : 0 ≤ x1_994 ∧ x1_994 ≤ 8 := by rw [ex1_994]; exact (bx_c167_1).mp (hI.bx _ _)
  refine ⟨fun c => ?_, fun c => ?_⟩
  · exact hQ _ hI
  · intro x3_997 ex3_997 rx3_997
    have bx3_997 : 0 ≤ x3_997 ∧ x3_997 ≤ 8 := by rw [ex3_997]; exact (bx_c167_1).mp (hI.bx _ _)
    refine ⟨by omega, ?_⟩
    refine ⟨by omega, ?_⟩
    intro M6_998 h_M6_998
    have hM6_998 : IX M6_998 := by rw [h_M6_998]; exact hI.up (by decide) (by simp [BX])
    intro x7_999 ex7_999 rx7_999
    have bx7_999 : 0 ≤ x7_999 ∧ x7_999 ≤ 8 := by rw [ex7_999]; exact (bx_c167_1).mp (hM6_998.bx _ _)
    have fx7_999 : x7_999 = M 167 1 := by rw [ex7_999, h_M6_998, up2_n (by decide)]
    refine ⟨(by first | assumption | exact (by omega)), ?_⟩
    intro M9_1000 h_M9_1000
    have hM9_1000 : IX M9_1000 := by rw [h_M9_1000]; exact hM6_998.up (by decide) ((bx_c167_1).mpr (by omega))
    exact hQ _ hM9_1000
theorem sX4_clear  {M : Mem} {Q : Mem → Prop} (hI : IX M) (hQ : ∀ M' : Mem, IX M' → Q M') : qX4_clear M Q := by
  unfold qX4_clear
  intro M1_1001 h_M1_1001
  have hM1_1001 : IX M1_1001 := by rw [h_M1_1001]; exact hI.up (by decide) ((bx_c167_1).mpr (by omega))
  exact hQ _ hM1_1001
theorem sX4_tellTwo {p1 : Int} {p3 : Int} {M : Mem} {Q : Mem → Prop} (hI : IX M) (hQ : ∀ M' : Mem, IX M' → Q M') : qX4_tellTwo p1 p3 M Q := by
  unfold qX4_tellTwo
  refine sX4_clear  hI  ?_
  intro M1_1002 hM1_1002
  refine sX4_add (p1 := p1) hM1_1002  ?_
  intro M2_1003 hM2_1003
  refine sX4_add (p1 := p3) hM2_1003  ?_
  intro M3_1004 hM3_1004
  exact hQ _ hM3_1004
theorem sX11_steps {p1 : Int} {M : Mem} {Q : Int → Mem → Prop} (hI : IX M) (hQ : ∀ z : Int, ∀ M' : Mem, IX M' → Q z M') : qX11_steps p1 M Q := by
  unfold qX11_steps
  refine ⟨fun c => ?_, fun c => ?_⟩
  · exact hQ _ _ hI
  · refine ⟨fun c => ?_, fun c => ?_⟩
    · refine sX6_copyFrom  hI (show isS 22 by decide) (show isS 1 by decide) ?_
      intro M3_1008 hM3_1008 gM3_1008
      refine ⟨(hM3_1008).l16, ?_⟩
      refine sX10_walk (p3 := p1) hM3_1008 (show isS 1 by decide) (hM3_1008).l16 (by omega) ?_
      intro M5_1009 hM5_1009
      intro x6_1010 ex6_1010 rx6_1010
      have bx6_1010 : -2147483648 ≤ x6_1010 ∧ x6_1010 ≤ 2147483647 := rx6_1010
      intro x7_1011 ex7_1011 rx7_1011
      have bx7_1011 : -2147483648 ≤ x7_1011 ∧ x7_1011 ≤ 2147483647 := rx7_1011
      refine sX4_tellTwo (p1 := x6_1010) (p3 := x7_1011) hM5_1009  ?_
      intro M8_1012 hM8_1012
      intro x9_1013 ex9_1013 rx9_1013
      have bx9_1013 : -2147483648 ≤ x9_1013 ∧ x9_1013 ≤ 2147483647 := rx9_1013
      refine sX11_undoable (p1 := x9_1013) hM8_1012  ?_
      intro x10_1014 M10_1015 hM10_1015 q1016
      exact hQ _ _ hM10_1015
    · exact hQ _ _ hI
theorem sX6_isMourner {k0 : Nat} {p1 : Int} {M : Mem} {Q : Int → Mem → Prop} (hI : IX M) (hk0 : isS k0) (hQ : ∀ z : Int, (¬ z = 0 → 0 ≤ p1 ∧ p1 ≤ 7) → Q z M) : qX6_isMourner k0 p1 M Q := by
  unfold qX6_isMourner
  have ek0 : 0 < k0 ∧ k0 < 155 ∧ (k0 - 1) % 7 = 0 := hk0
  refine ⟨fun c => ?_, fun c => ?_⟩
  · exact hQ _ (by omega)
  · intro x2_1020 ex2_1020 rx2_1020
    have bx2_1020 : 0 ≤ x2_1020 ∧ x2_1020 ≤ 8 := by rw [ex2_1020]; exact (bx_s0_7 hk0).mp (hI.bx _ _)
    refine ⟨fun c => ?_, fun c => ?_⟩
    · exact hQ _ (by omega)
    · exact hQ _ (by omega)
theorem sX6_turn {k0 : Nat} {p1 : Int} {M : Mem} {Q : Int → Mem → Prop} (hI : IX M) (hk0 : isS k0) (hQ : ∀ z : Int, ∀ M' : Mem, IX M' → Q z M') : qX6_turn k0 p1 M Q := by
  unfold qX6_turn
  have ek0 : 0 < k0 ∧ k0 < 155 ∧ (k0 - 1) % 7 = 0 := hk0
  refine sX6_isMourner (p1 := p1) hI hk0 ?_
  intro x1_1023 p1024 q1025 q1026
  refine ⟨fun c => ?_, fun c => ?_⟩
  · refine sX6_hasEnded (p1 := p1) hI hk0 (by omega) ?_
    intro x3_1028 q1029 q1030
    refine ⟨fun c => ?_, fun c => ?_⟩
    · refine ⟨by omega, ?_⟩
      refine ⟨by omega, ?_⟩
      intro x7_1032 ex7_1032 rx7_1032
      have bx7_1032 : -1 ≤ x7_1032 ∧ x7_1032 ≤ 5 := by rw [ex7_1032]; exact (bx_s5 hk0).mp (hI.bx _ _)
      intro x8_1033 ex8_1033 rx8_1033
      have bx8_1033 : 0 ≤ x8_1033 ∧ x8_1033 ≤ 5 := by rw [ex8_1033]; exact (bx_s4 hk0).mp (hI.bx _ _)
      refine sX6_hasArrived (p1 := x8_1033) hI hk0 (by omega) ?_
      intro x9_1034 q1035 q1036
      refine ⟨fun c => ?_, fun c => ?_⟩
      · exact hQ _ _ hI
      · intro x11_1039 ex11_1039 rx11_1039
        have bx11_1039 : 0 ≤ x11_1039 ∧ x11_1039 ≤ 5 := by rw [ex11_1039]; exact (bx_s4 hk0).mp (hI.bx _ _)
        refine ⟨fun c => ?_, fun c => ?_⟩
        · intro x13_1041 ex13_1041 rx13_1041
          have bx13_1041 : 0 ≤ x13_1041 ∧ x13_1041 ≤ 5 := by rw [ex13_1041]; exact (bx_s4 hk0).mp (hI.bx _ _)
          intro M14_1042 h_M14_1042
          have hM14_1042 : IX M14_1042 := by rw [h_M14_1042]; exact hI.up (isS.nsp hk0 5 (by decide)) ((bx_s5 hk0).mpr (by omega))
          refine ⟨fun c => ?_, fun c => ?_⟩
          · exact hQ _ _ hM14_1042
          · exact hQ _ _ hM14_1042
        · exact hQ _ _ hI
    · exact hQ _ _ hI
  · exact hQ _ _ hI
theorem sX11_turnsTo {p1 : Int} {M : Mem} {Q : Int → Mem → Prop} (hI : IX M) (hQ : ∀ z : Int, ∀ M' : Mem, IX M' → Q z M') : qX11_turnsTo p1 M Q := by
  unfold qX11_turnsTo
  refine sX6_copyFrom  hI (show isS 22 by decide) (show isS 1 by decide) ?_
  intro M1_1048 hM1_1048 gM1_1048
  refine sX6_turn (p1 := p1) hM1_1048 (show isS 1 by decide) ?_
  intro x2_1049 M2_1050 hM2_1050 q1051
  refine sX11_undoable (p1 := x2_1049) hM2_1050  ?_
  intro x3_1052 M3_1053 hM3_1053 q1054
  exact hQ _ _ hM3_1053
theorem sX6_shove {k0 : Nat} {p1 : Int} {p2 : Int} {M : Mem} {Q : Int → Mem → Prop} (hI : IX M) (hk0 : isS k0) (hQ : ∀ z : Int, ∀ M' : Mem, IX M' → Q z M') : qX6_shove k0 p1 p2 M Q := by
  unfold qX6_shove
  have ek0 : 0 < k0 ∧ k0 < 155 ∧ (k0 - 1) % 7 = 0 := hk0
  refine sX6_isMourner (p1 := p1) hI hk0 ?_
  intro x1_1055 p1056 q1057 q1058
  refine ⟨fun c => ?_, fun c => ?_⟩
  · exact hQ _ _ hI
  · refine ⟨fun c => ?_, fun c => ?_⟩
    · exact hQ _ _ hI
    · refine ⟨fun c => ?_, fun c => ?_⟩
      · exact hQ _ _ hI
      · refine ⟨fun c => ?_, fun c => ?_⟩
        · refine sX6_hasEnded (p1 := p1) hI hk0 (by omega) ?_
          intro x6_1066 q1067 q1068
          refine ⟨fun c => ?_, fun c => ?_⟩
          · refine ⟨by omega, ?_⟩
            refine ⟨by omega, ?_⟩
            intro x10_1070 ex10_1070 rx10_1070
            have bx10_1070 : -1 ≤ x10_1070 ∧ x10_1070 ≤ 29 := by rw [ex10_1070]; exact (bx_s3 hk0).mp (hI.bx _ _)
            refine ⟨(by first | assumption | exact (by omega)), ?_⟩
            refine sX8_putOnStreet (p1 := x10_1070 + p2) hI  ?_
            intro x12_1071 p1072 q1073
            intro M13_1074 h_M13_1074
            have hM13_1074 : IX M13_1074 := by rw [h_M13_1074]; exact hI.up (isS.nsp hk0 3 (by decide)) ((bx_s3 hk0).mpr (by omega))
            intro x14_1075 ex14_1075 rx14_1075
            have bx14_1075 : -1 ≤ x14_1075 ∧ x14_1075 ≤ 29 := by rw [ex14_1075]; exact (bx_s3 hk0).mp (hM13_1074.bx _ _)
            have fx14_1075 : x14_1075 = x12_1071 := by rw [ex14_1075, h_M13_1074, up2_s]
            exact hQ _ _ hM13_1074
          · exact hQ _ _ hI
        · exact hQ _ _ hI
theorem sX11_pushes {p1 : Int} {p2 : Int} {M : Mem} {Q : Int → Mem → Prop} (hI : IX M) (hQ : ∀ z : Int, ∀ M' : Mem, IX M' → Q z M') : qX11_pushes p1 p2 M Q := by
  unfold qX11_pushes
  refine sX6_copyFrom  hI (show isS 22 by decide) (show isS 1 by decide) ?_
  intro M1_1078 hM1_1078 gM1_1078
  refine sX6_shove (p1 := p1) (p2 := p2) hM1_1078 (show isS 1 by decide) ?_
  intro x2_1079 M2_1080 hM2_1080 q1081
  refine sX11_undoable (p1 := x2_1079) hM2_1080  ?_
  intro x3_1082 M3_1083 hM3_1083 q1084
  exact hQ _ _ hM3_1083
theorem sX6_isHearse {k0 : Nat} {p1 : Int} {M : Mem} {Q : Int → Mem → Prop} (hI : IX M) (hk0 : isS k0) (hQ : ∀ z : Int, (¬ z = 0 → 0 ≤ p1 ∧ p1 ≤ 5) → Q z M) : qX6_isHearse k0 p1 M Q := by
  unfold qX6_isHearse
  have ek0 : 0 < k0 ∧ k0 < 155 ∧ (k0 - 1) % 7 = 0 := hk0
  refine ⟨fun c => ?_, fun c => ?_⟩
  · exact hQ _ (by omega)
  · intro x2_1087 ex2_1087 rx2_1087
    have bx2_1087 : 0 ≤ x2_1087 ∧ x2_1087 ≤ 6 := by rw [ex2_1087]; exact (bx_s0_6 hk0).mp (hI.bx _ _)
    refine ⟨fun c => ?_, fun c => ?_⟩
    · exact hQ _ (by omega)
    · exact hQ _ (by omega)
theorem sX6_exchange {k0 : Nat} {p1 : Int} {p2 : Int} {M : Mem} {Q : Int → Mem → Prop} (hI : IX M) (hk0 : isS k0) (hQ : ∀ z : Int, ∀ M' : Mem, IX M' → Q z M') : qX6_exchange k0 p1 p2 M Q := by
  unfold qX6_exchange
  have ek0 : 0 < k0 ∧ k0 < 155 ∧ (k0 - 1) % 7 = 0 := hk0
  refine sX6_isHearse (p1 := p1) hI hk0 ?_
  intro x1_1090 p1091 q1092 q1093
  refine ⟨fun c => ?_, fun c => ?_⟩
  · exact hQ _ _ hI
  · refine sX6_isHearse (p1 := p2) hI hk0 ?_
    intro x3_1096 p1097 q1098 q1099
    refine ⟨fun c => ?_, fun c => ?_⟩
    · exact hQ _ _ hI
    · refine ⟨fun c => ?_, fun c => ?_⟩
      · refine sX6_hasArrived (p1 := p1) hI hk0 (by omega) ?_
        intro x6_1103 q1104 q1105
        refine ⟨fun c => ?_, fun c => ?_⟩
        · exact hQ _ _ hI
        · refine sX6_hasArrived (p1 := p2) hI hk0 (by omega) ?_
          intro x8_1108 q1109 q1110
          refine ⟨fun c => ?_, fun c => ?_⟩
          · refine ⟨by omega, ?_⟩
            refine ⟨by omega, ?_⟩
            intro x12_1112 ex12_1112 rx12_1112
            have bx12_1112 : -1 ≤ x12_1112 ∧ x12_1112 ≤ 29 := by rw [ex12_1112]; exact (bx_s1 hk0).mp (hI.bx _ _)
            refine ⟨by omega, ?_⟩
            refine ⟨by omega, ?_⟩
            intro x15_1113 ex15_1113 rx15_1113
            have bx15_1113 : -1 ≤ x15_1113 ∧ x15_1113 ≤ 29 := by rw [ex15_1113]; exact (bx_s1 hk0).mp (hI.bx _ _)
            intro M16_1114 h_M16_1114
            have hM16_1114 : IX M16_1114 := by rw [h_M16_1114]; exact hI.up (isS.nsp hk0 1 (by decide)) ((bx_s1 hk0).mpr (by omega))
            intro M17_1115 h_M17_1115
            have hM17_1115 : IX M17_1115 := by rw [h_M17_1115]; exact hM16_1114.up (isS.nsp hk0 1 (by decide)) ((bx_s1 hk0).mpr (by omega))
            intro x18_1116 ex18_1116 rx18_1116
            have bx18_1116 : -1 ≤ x18_1116 ∧ x18_1116 ≤ 29 := by rw [ex18_1116]; exact (bx_s1 hk0).mp (hM17_1115.bx _ _)
            intro x19_1117 ex19_1117 rx19_1117
            have bx19_1117 : -1 ≤ x19_1117 ∧ x19_1117 ≤ 29 := by rw [ex19_1117]; exact (bx_s1 hk0).mp (hM17_1115.bx _ _)
            have fx19_1117 : x19_1117 = x12_1112 := by rw [ex19_1117, h_M17_1115, up2_s]
            refine ⟨(by first | assumption | exact (by omega)), ?_⟩
            intro x21_1118 px21_1118 nx21_1118
            have bx21_1118 : 0 ≤ x21_1118 ∧ (x18_1116 - x19_1117 = x21_1118 ∨ x18_1116 - x19_1117 = -x21_1118) := by omega
            refine ⟨(by first | assumption | exact (by omega)), ?_⟩
            exact hQ _ _ hM17_1115
          · exact hQ _ _ hI
      · exact hQ _ _ hI
theorem sX11_swaps {p1 : Int} {p2 : Int} {M : Mem} {Q : Int → Mem → Prop} (hI : IX M) (hQ : ∀ z : Int, ∀ M' : Mem, IX M' → Q z M') : qX11_swaps p1 p2 M Q := by
  unfold qX11_swaps
  refine sX6_copyFrom  hI (show isS 22 by decide) (show isS 1 by decide) ?_
  intro M1_1121 hM1_1121 gM1_1121
  refine sX6_exchange (p1 := p1) (p2 := p2) hM1_1121 (show isS 1 by decide) ?_
  intro x2_1122 M2_1123 hM2_1123 q1124
  refine sX11_undoable (p1 := x2_1122) hM2_1123  ?_
  intro x3_1125 M3_1126 hM3_1126 q1127
  exact hQ _ _ hM3_1126
theorem sX11_doAct  {M : Mem} {Q : Int → Mem → Prop} (hI : IX M) (hQ : ∀ z : Int, ∀ M' : Mem, IX M' → Q z M') : qX11_doAct M Q := by
  unfold qX11_doAct
  refine sX9_look  hI  ?_
  intro x1_1128 p1129 q1130
  refine sX9_pass  hI  ?_
  intro M2_1131 hM2_1131 gM2_1131
  refine sX9_digit  hM2_1131  ?_
  intro x3_1132 M3_1133 hM3_1133 gM3_1133 p1134 q1135
  refine ⟨fun c => ?_, fun c => ?_, fun c => ?_, fun c => ?_, fun c => ?_⟩
  · refine sX9_digit  hM3_1133  ?_
    intro x5_1137 M5_1138 hM5_1138 gM5_1138 p1139 q1140
    refine ⟨(by first | assumption | exact (by omega)), ?_⟩
    refine sX6_shove (p1 := x3_1132) (p2 := (-x5_1137)) hM5_1138 (show isS 1 by decide) ?_
    intro x7_1141 M7_1142 hM7_1142 q1143
    exact hQ _ _ hM7_1142
  · refine ⟨(hM3_1133).l16, ?_⟩
    refine sX10_walk (p3 := x3_1132) hM3_1133 (show isS 1 by decide) (hM3_1133).l16 (by omega) ?_
    intro M9_1145 hM9_1145
    intro x10_1146 ex10_1146 rx10_1146
    have bx10_1146 : -2147483648 ≤ x10_1146 ∧ x10_1146 ≤ 2147483647 := rx10_1146
    exact hQ _ _ hM9_1145
  · refine sX9_digit  hM3_1133  ?_
    intro x11_1148 M11_1149 hM11_1149 gM11_1149 p1150 q1151
    refine sX6_shove (p1 := x3_1132) (p2 := x11_1148) hM11_1149 (show isS 1 by decide) ?_
    intro x12_1152 M12_1153 hM12_1153 q1154
    exact hQ _ _ hM12_1153
  · refine sX6_turn (p1 := x3_1132) hM3_1133 (show isS 1 by decide) ?_
    intro x13_1156 M13_1157 hM13_1157 q1158
    exact hQ _ _ hM13_1157
  · refine sX9_digit  hM3_1133  ?_
    intro x14_1160 M14_1161 hM14_1161 gM14_1161 p1162 q1163
    refine sX6_exchange (p1 := x3_1132) (p2 := x14_1160) hM14_1161 (show isS 1 by decide) ?_
    intro x15_1164 M15_1165 hM15_1165 q1166
    exact hQ _ _ hM15_1165
theorem sX11_passAct  {M : Mem} {Q : Int → Mem → Prop} (hI : IX M) (hQ : ∀ z : Int, ∀ M' : Mem, IX M' → Q z M') : qX11_passAct M Q := by
  unfold qX11_passAct
  refine sX9_look  hI  ?_
  intro x1_1167 p1168 q1169
  refine ⟨fun c => ?_, fun c => ?_⟩
  · unfold qX11_passAct_J20
    unfold qX11_passAct_J25
    refine ⟨(by first | assumption | exact (by omega)), ?_⟩
    refine ⟨fun c => ?_, fun c => ?_⟩
    · unfold qX11_passAct_J50
      refine sX9_pass  hI  ?_
      intro M5_1172 hM5_1172 gM5_1172
      refine sX9_digit  hM5_1172  ?_
      intro x6_1173 M6_1174 hM6_1174 gM6_1174 p1175 q1176
      refine ⟨fun c => ?_, fun c => ?_⟩
      · exact hQ _ _ hM6_1174
      · refine ⟨(by first | assumption | exact (by omega)), ?_⟩
        refine ⟨fun c => ?_, fun c => ?_⟩
        · unfold qX11_passAct_J86
          refine ⟨(by first | assumption | exact (by omega)), ?_⟩
          refine ⟨fun c => ?_, fun c => ?_⟩
          · unfold qX11_passAct_J96
            refine sX9_digit  hM6_1174  ?_
            intro x12_1181 M12_1182 hM12_1182 gM12_1182 p1183 q1184
            refine ⟨fun c => ?_, fun c => ?_⟩
            · exact hQ _ _ hM12_1182
            · exact hQ _ _ hM12_1182
          · refine ⟨(by first | assumption | exact (by omega)), ?_⟩
            refine ⟨fun c => ?_, fun c => ?_⟩
            · exact hQ _ _ hM6_1174
            · unfold qX11_passAct_J96
              refine sX9_digit  hM6_1174  ?_
              intro x12_1190 M12_1191 hM12_1191 gM12_1191 p1192 q1193
              refine ⟨fun c => ?_, fun c => ?_⟩
              · exact hQ _ _ hM12_1191
              · exact hQ _ _ hM12_1191
        · refine sX9_look  hM6_1174  ?_
          intro x16_1197 p1198 q1199
          refine ⟨fun c => ?_, fun c => ?_⟩
          · unfold qX11_passAct_J86
            refine ⟨(by first | assumption | exact (by omega)), ?_⟩
            refine ⟨fun c => ?_, fun c => ?_⟩
            · unfold qX11_passAct_J96
              refine sX9_digit  hM6_1174  ?_
              intro x12_1202 M12_1203 hM12_1203 gM12_1203 p1204 q1205
              refine ⟨fun c => ?_, fun c => ?_⟩
              · exact hQ _ _ hM12_1203
              · exact hQ _ _ hM12_1203
            · refine ⟨(by first | assumption | exact (by omega)), ?_⟩
              refine ⟨fun c => ?_, fun c => ?_⟩
              · exact hQ _ _ hM6_1174
              · unfold qX11_passAct_J96
                refine sX9_digit  hM6_1174  ?_
                intro x12_1211 M12_1212 hM12_1212 gM12_1212 p1213 q1214
                refine ⟨fun c => ?_, fun c => ?_⟩
                · exact hQ _ _ hM12_1212
                · exact hQ _ _ hM12_1212
          · exact hQ _ _ hM6_1174
    · refine ⟨(by first | assumption | exact (by omega)), ?_⟩
      refine ⟨fun c => ?_, fun c => ?_⟩
      · unfold qX11_passAct_J50
        refine sX9_pass  hI  ?_
        intro M5_1220 hM5_1220 gM5_1220
        refine sX9_digit  hM5_1220  ?_
        intro x6_1221 M6_1222 hM6_1222 gM6_1222 p1223 q1224
        refine ⟨fun c => ?_, fun c => ?_⟩
        · exact hQ _ _ hM6_1222
        · refine ⟨(by first | assumption | exact (by omega)), ?_⟩
          refine ⟨fun c => ?_, fun c => ?_⟩
          · unfold qX11_passAct_J86
            refine ⟨(by first | assumption | exact (by omega)), ?_⟩
            refine ⟨fun c => ?_, fun c => ?_⟩
            · unfold qX11_passAct_J96
              refine sX9_digit  hM6_1222  ?_
              intro x12_1229 M12_1230 hM12_1230 gM12_1230 p1231 q1232
              refine ⟨fun c => ?_, fun c => ?_⟩
              · exact hQ _ _ hM12_1230
              · exact hQ _ _ hM12_1230
            · refine ⟨(by first | assumption | exact (by omega)), ?_⟩
              refine ⟨fun c => ?_, fun c => ?_⟩
              · exact hQ _ _ hM6_1222
              · unfold qX11_passAct_J96
                refine sX9_digit  hM6_1222  ?_
                intro x12_1238 M12_1239 hM12_1239 gM12_1239 p1240 q1241
                refine ⟨fun c => ?_, fun c => ?_⟩
                · exact hQ _ _ hM12_1239
                · exact hQ _ _ hM12_1239
          · refine sX9_look  hM6_1222  ?_
            intro x16_1245 p1246 q1247
            refine ⟨fun c => ?_, fun c => ?_⟩
            · unfold qX11_passAct_J86
              refine ⟨(by first | assumption | exact (by omega)), ?_⟩
              refine ⟨fun c => ?_, fun c => ?_⟩
              · unfold qX11_passAct_J96
                refine sX9_digit  hM6_1222  ?_
                intro x12_1250 M12_1251 hM12_1251 gM12_1251 p1252 q1253
                refine ⟨fun c => ?_, fun c => ?_⟩
                · exact hQ _ _ hM12_1251
                · exact hQ _ _ hM12_1251
              · refine ⟨(by first | assumption | exact (by omega)), ?_⟩
                refine ⟨fun c => ?_, fun c => ?_⟩
                · exact hQ _ _ hM6_1222
                · unfold qX11_passAct_J96
                  refine sX9_digit  hM6_1222  ?_
                  intro x12_1259 M12_1260 hM12_1260 gM12_1260 p1261 q1262
                  refine ⟨fun c => ?_, fun c => ?_⟩
                  · exact hQ _ _ hM12_1260
                  · exact hQ _ _ hM12_1260
            · exact hQ _ _ hM6_1222
      · refine ⟨fun c => ?_, fun c => ?_⟩
        · unfold qX11_passAct_J50
          refine sX9_pass  hI  ?_
          intro M5_1268 hM5_1268 gM5_1268
          refine sX9_digit  hM5_1268  ?_
          intro x6_1269 M6_1270 hM6_1270 gM6_1270 p1271 q1272
          refine ⟨fun c => ?_, fun c => ?_⟩
          · exact hQ _ _ hM6_1270
          · refine ⟨(by first | assumption | exact (by omega)), ?_⟩
            refine ⟨fun c => ?_, fun c => ?_⟩
            · unfold qX11_passAct_J86
              refine ⟨(by first | assumption | exact (by omega)), ?_⟩
              refine ⟨fun c => ?_, fun c => ?_⟩
              · unfold qX11_passAct_J96
                refine sX9_digit  hM6_1270  ?_
                intro x12_1277 M12_1278 hM12_1278 gM12_1278 p1279 q1280
                refine ⟨fun c => ?_, fun c => ?_⟩
                · exact hQ _ _ hM12_1278
                · exact hQ _ _ hM12_1278
              · refine ⟨(by first | assumption | exact (by omega)), ?_⟩
                refine ⟨fun c => ?_, fun c => ?_⟩
                · exact hQ _ _ hM6_1270
                · unfold qX11_passAct_J96
                  refine sX9_digit  hM6_1270  ?_
                  intro x12_1286 M12_1287 hM12_1287 gM12_1287 p1288 q1289
                  refine ⟨fun c => ?_, fun c => ?_⟩
                  · exact hQ _ _ hM12_1287
                  · exact hQ _ _ hM12_1287
            · refine sX9_look  hM6_1270  ?_
              intro x16_1293 p1294 q1295
              refine ⟨fun c => ?_, fun c => ?_⟩
              · unfold qX11_passAct_J86
                refine ⟨(by first | assumption | exact (by omega)), ?_⟩
                refine ⟨fun c => ?_, fun c => ?_⟩
                · unfold qX11_passAct_J96
                  refine sX9_digit  hM6_1270  ?_
                  intro x12_1298 M12_1299 hM12_1299 gM12_1299 p1300 q1301
                  refine ⟨fun c => ?_, fun c => ?_⟩
                  · exact hQ _ _ hM12_1299
                  · exact hQ _ _ hM12_1299
                · refine ⟨(by first | assumption | exact (by omega)), ?_⟩
                  refine ⟨fun c => ?_, fun c => ?_⟩
                  · exact hQ _ _ hM6_1270
                  · unfold qX11_passAct_J96
                    refine sX9_digit  hM6_1270  ?_
                    intro x12_1307 M12_1308 hM12_1308 gM12_1308 p1309 q1310
                    refine ⟨fun c => ?_, fun c => ?_⟩
                    · exact hQ _ _ hM12_1308
                    · exact hQ _ _ hM12_1308
              · exact hQ _ _ hM6_1270
        · refine ⟨fun c => ?_, fun c => ?_⟩
          · unfold qX11_passAct_J50
            refine sX9_pass  hI  ?_
            intro M5_1316 hM5_1316 gM5_1316
            refine sX9_digit  hM5_1316  ?_
            intro x6_1317 M6_1318 hM6_1318 gM6_1318 p1319 q1320
            refine ⟨fun c => ?_, fun c => ?_⟩
            · exact hQ _ _ hM6_1318
            · refine ⟨(by first | assumption | exact (by omega)), ?_⟩
              refine ⟨fun c => ?_, fun c => ?_⟩
              · unfold qX11_passAct_J86
                refine ⟨(by first | assumption | exact (by omega)), ?_⟩
                refine ⟨fun c => ?_, fun c => ?_⟩
                · unfold qX11_passAct_J96
                  refine sX9_digit  hM6_1318  ?_
                  intro x12_1325 M12_1326 hM12_1326 gM12_1326 p1327 q1328
                  refine ⟨fun c => ?_, fun c => ?_⟩
                  · exact hQ _ _ hM12_1326
                  · exact hQ _ _ hM12_1326
                · refine ⟨(by first | assumption | exact (by omega)), ?_⟩
                  refine ⟨fun c => ?_, fun c => ?_⟩
                  · exact hQ _ _ hM6_1318
                  · unfold qX11_passAct_J96
                    refine sX9_digit  hM6_1318  ?_
                    intro x12_1334 M12_1335 hM12_1335 gM12_1335 p1336 q1337
                    refine ⟨fun c => ?_, fun c => ?_⟩
                    · exact hQ _ _ hM12_1335
                    · exact hQ _ _ hM12_1335
              · refine sX9_look  hM6_1318  ?_
                intro x16_1341 p1342 q1343
                refine ⟨fun c => ?_, fun c => ?_⟩
                · unfold qX11_passAct_J86
                  refine ⟨(by first | assumption | exact (by omega)), ?_⟩
                  refine ⟨fun c => ?_, fun c => ?_⟩
                  · unfold qX11_passAct_J96
                    refine sX9_digit  hM6_1318  ?_
                    intro x12_1346 M12_1347 hM12_1347 gM12_1347 p1348 q1349
                    refine ⟨fun c => ?_, fun c => ?_⟩
                    · exact hQ _ _ hM12_1347
                    · exact hQ _ _ hM12_1347
                  · refine ⟨(by first | assumption | exact (by omega)), ?_⟩
                    refine ⟨fun c => ?_, fun c => ?_⟩
                    · exact hQ _ _ hM6_1318
                    · unfold qX11_passAct_J96
                      refine sX9_digit  hM6_1318  ?_
                      intro x12_1355 M12_1356 hM12_1356 gM12_1356 p1357 q1358
                      refine ⟨fun c => ?_, fun c => ?_⟩
                      · exact hQ _ _ hM12_1356
                      · exact hQ _ _ hM12_1356
                · exact hQ _ _ hM6_1318
          · exact hQ _ _ hI
  · refine ⟨fun c => ?_, fun c => ?_⟩
    · unfold qX11_passAct_J25
      refine ⟨(by first | assumption | exact (by omega)), ?_⟩
      refine ⟨fun c => ?_, fun c => ?_⟩
      · unfold qX11_passAct_J50
        refine sX9_pass  hI  ?_
        intro M5_1366 hM5_1366 gM5_1366
        refine sX9_digit  hM5_1366  ?_
        intro x6_1367 M6_1368 hM6_1368 gM6_1368 p1369 q1370
        refine ⟨fun c => ?_, fun c => ?_⟩
        · exact hQ _ _ hM6_1368
        · refine ⟨(by first | assumption | exact (by omega)), ?_⟩
          refine ⟨fun c => ?_, fun c => ?_⟩
          · unfold qX11_passAct_J86
            refine ⟨(by first | assumption | exact (by omega)), ?_⟩
            refine ⟨fun c => ?_, fun c => ?_⟩
            · unfold qX11_passAct_J96
              refine sX9_digit  hM6_1368  ?_
              intro x12_1375 M12_1376 hM12_1376 gM12_1376 p1377 q1378
              refine ⟨fun c => ?_, fun c => ?_⟩
              · exact hQ _ _ hM12_1376
              · exact hQ _ _ hM12_1376
            · refine ⟨(by first | assumption | exact (by omega)), ?_⟩
              refine ⟨fun c => ?_, fun c => ?_⟩
              · exact hQ _ _ hM6_1368
              · unfold qX11_passAct_J96
                refine sX9_digit  hM6_1368  ?_
                intro x12_1384 M12_1385 hM12_1385 gM12_1385 p1386 q1387
                refine ⟨fun c => ?_, fun c => ?_⟩
                · exact hQ _ _ hM12_1385
                · exact hQ _ _ hM12_1385
          · refine sX9_look  hM6_1368  ?_
            intro x16_1391 p1392 q1393
            refine ⟨fun c => ?_, fun c => ?_⟩
            · unfold qX11_passAct_J86
              refine ⟨(by first | assumption | exact (by omega)), ?_⟩
              refine ⟨fun c => ?_, fun c => ?_⟩
              · unfold qX11_passAct_J96
                refine sX9_digit  hM6_1368  ?_
                intro x12_1396 M12_1397 hM12_1397 gM12_1397 p1398 q1399
                refine ⟨fun c => ?_, fun c => ?_⟩
                · exact hQ _ _ hM12_1397
                · exact hQ _ _ hM12_1397
              · refine ⟨(by first | assumption | exact (by omega)), ?_⟩
                refine ⟨fun c => ?_, fun c => ?_⟩
                · exact hQ _ _ hM6_1368
                · unfold qX11_passAct_J96
                  refine sX9_digit  hM6_1368  ?_
                  intro x12_1405 M12_1406 hM12_1406 gM12_1406 p1407 q1408
                  refine ⟨fun c => ?_, fun c => ?_⟩
                  · exact hQ _ _ hM12_1406
                  · exact hQ _ _ hM12_1406
            · exact hQ _ _ hM6_1368
      · refine ⟨(by first | assumption | exact (by omega)), ?_⟩
        refine ⟨fun c => ?_, fun c => ?_⟩
        · unfold qX11_passAct_J50
          refine sX9_pass  hI  ?_
          intro M5_1414 hM5_1414 gM5_1414
          refine sX9_digit  hM5_1414  ?_
          intro x6_1415 M6_1416 hM6_1416 gM6_1416 p1417 q1418
          refine ⟨fun c => ?_, fun c => ?_⟩
          · exact hQ _ _ hM6_1416
          · refine ⟨(by first | assumption | exact (by omega)), ?_⟩
            refine ⟨fun c => ?_, fun c => ?_⟩
            · unfold qX11_passAct_J86
              refine ⟨(by first | assumption | exact (by omega)), ?_⟩
              refine ⟨fun c => ?_, fun c => ?_⟩
              · unfold qX11_passAct_J96
                refine sX9_digit  hM6_1416  ?_
                intro x12_1423 M12_1424 hM12_1424 gM12_1424 p1425 q1426
                refine ⟨fun c => ?_, fun c => ?_⟩
                · exact hQ _ _ hM12_1424
                · exact hQ _ _ hM12_1424
              · refine ⟨(by first | assumption | exact (by omega)), ?_⟩
                refine ⟨fun c => ?_, fun c => ?_⟩
                · exact hQ _ _ hM6_1416
                · unfold qX11_passAct_J96
                  refine sX9_digit  hM6_1416  ?_
                  intro x12_1432 M12_1433 hM12_1433 gM12_1433 p1434 q1435
                  refine ⟨fun c => ?_, fun c => ?_⟩
                  · exact hQ _ _ hM12_1433
                  · exact hQ _ _ hM12_1433
            · refine sX9_look  hM6_1416  ?_
              intro x16_1439 p1440 q1441
              refine ⟨fun c => ?_, fun c => ?_⟩
              · unfold qX11_passAct_J86
                refine ⟨(by first | assumption | exact (by omega)), ?_⟩
                refine ⟨fun c => ?_, fun c => ?_⟩
                · unfold qX11_passAct_J96
                  refine sX9_digit  hM6_1416  ?_
                  intro x12_1444 M12_1445 hM12_1445 gM12_1445 p1446 q1447
                  refine ⟨fun c => ?_, fun c => ?_⟩
                  · exact hQ _ _ hM12_1445
                  · exact hQ _ _ hM12_1445
                · refine ⟨(by first | assumption | exact (by omega)), ?_⟩
                  refine ⟨fun c => ?_, fun c => ?_⟩
                  · exact hQ _ _ hM6_1416
                  · unfold qX11_passAct_J96
                    refine sX9_digit  hM6_1416  ?_
                    intro x12_1453 M12_1454 hM12_1454 gM12_1454 p1455 q1456
                    refine ⟨fun c => ?_, fun c => ?_⟩
                    · exact hQ _ _ hM12_1454
                    · exact hQ _ _ hM12_1454
              · exact hQ _ _ hM6_1416
        · refine ⟨fun c => ?_, fun c => ?_⟩
          · unfold qX11_passAct_J50
            refine sX9_pass  hI  ?_
            intro M5_1462 hM5_1462 gM5_1462
            refine sX9_digit  hM5_1462  ?_
            intro x6_1463 M6_1464 hM6_1464 gM6_1464 p1465 q1466
            refine ⟨fun c => ?_, fun c => ?_⟩
            · exact hQ _ _ hM6_1464
            · refine ⟨(by first | assumption | exact (by omega)), ?_⟩
              refine ⟨fun c => ?_, fun c => ?_⟩
              · unfold qX11_passAct_J86
                refine ⟨(by first | assumption | exact (by omega)), ?_⟩
                refine ⟨fun c => ?_, fun c => ?_⟩
                · unfold qX11_passAct_J96
                  refine sX9_digit  hM6_1464  ?_
                  intro x12_1471 M12_1472 hM12_1472 gM12_1472 p1473 q1474
                  refine ⟨fun c => ?_, fun c => ?_⟩
                  · exact hQ _ _ hM12_1472
                  · exact hQ _ _ hM12_1472
                · refine ⟨(by first | assumption | exact (by omega)), ?_⟩
                  refine ⟨fun c => ?_, fun c => ?_⟩
                  · exact hQ _ _ hM6_1464
                  · unfold qX11_passAct_J96
                    refine sX9_digit  hM6_1464  ?_
                    intro x12_1480 M12_1481 hM12_1481 gM12_1481 p1482 q1483
                    refine ⟨fun c => ?_, fun c => ?_⟩
                    · exact hQ _ _ hM12_1481
                    · exact hQ _ _ hM12_1481
              · refine sX9_look  hM6_1464  ?_
                intro x16_1487 p1488 q1489
                refine ⟨fun c => ?_, fun c => ?_⟩
                · unfold qX11_passAct_J86
                  refine ⟨(by first | assumption | exact (by omega)), ?_⟩
                  refine ⟨fun c => ?_, fun c => ?_⟩
                  · unfold qX11_passAct_J96
                    refine sX9_digit  hM6_1464  ?_
                    intro x12_1492 M12_1493 hM12_1493 gM12_1493 p1494 q1495
                    refine ⟨fun c => ?_, fun c => ?_⟩
                    · exact hQ _ _ hM12_1493
                    · exact hQ _ _ hM12_1493
                  · refine ⟨(by first | assumption | exact (by omega)), ?_⟩
                    refine ⟨fun c => ?_, fun c => ?_⟩
                    · exact hQ _ _ hM6_1464
                    · unfold qX11_passAct_J96
                      refine sX9_digit  hM6_1464  ?_
                      intro x12_1501 M12_1502 hM12_1502 gM12_1502 p1503 q1504
                      refine ⟨fun c => ?_, fun c => ?_⟩
                      · exact hQ _ _ hM12_1502
                      · exact hQ _ _ hM12_1502
                · exact hQ _ _ hM6_1464
          · refine ⟨fun c => ?_, fun c => ?_⟩
            · unfold qX11_passAct_J50
              refine sX9_pass  hI  ?_
              intro M5_1510 hM5_1510 gM5_1510
              refine sX9_digit  hM5_1510  ?_
              intro x6_1511 M6_1512 hM6_1512 gM6_1512 p1513 q1514
              refine ⟨fun c => ?_, fun c => ?_⟩
              · exact hQ _ _ hM6_1512
              · refine ⟨(by first | assumption | exact (by omega)), ?_⟩
                refine ⟨fun c => ?_, fun c => ?_⟩
                · unfold qX11_passAct_J86
                  refine ⟨(by first | assumption | exact (by omega)), ?_⟩
                  refine ⟨fun c => ?_, fun c => ?_⟩
                  · unfold qX11_passAct_J96
                    refine sX9_digit  hM6_1512  ?_
                    intro x12_1519 M12_1520 hM12_1520 gM12_1520 p1521 q1522
                    refine ⟨fun c => ?_, fun c => ?_⟩
                    · exact hQ _ _ hM12_1520
                    · exact hQ _ _ hM12_1520
                  · refine ⟨(by first | assumption | exact (by omega)), ?_⟩
                    refine ⟨fun c => ?_, fun c => ?_⟩
                    · exact hQ _ _ hM6_1512
                    · unfold qX11_passAct_J96
                      refine sX9_digit  hM6_1512  ?_
                      intro x12_1528 M12_1529 hM12_1529 gM12_1529 p1530 q1531
                      refine ⟨fun c => ?_, fun c => ?_⟩
                      · exact hQ _ _ hM12_1529
                      · exact hQ _ _ hM12_1529
                · refine sX9_look  hM6_1512  ?_
                  intro x16_1535 p1536 q1537
                  refine ⟨fun c => ?_, fun c => ?_⟩
                  · unfold qX11_passAct_J86
                    refine ⟨(by first | assumption | exact (by omega)), ?_⟩
                    refine ⟨fun c => ?_, fun c => ?_⟩
                    · unfold qX11_passAct_J96
                      refine sX9_digit  hM6_1512  ?_
                      intro x12_1540 M12_1541 hM12_1541 gM12_1541 p1542 q1543
                      refine ⟨fun c => ?_, fun c => ?_⟩
                      · exact hQ _ _ hM12_1541
                      · exact hQ _ _ hM12_1541
                    · refine ⟨(by first | assumption | exact (by omega)), ?_⟩
                      refine ⟨fun c => ?_, fun c => ?_⟩
                      · exact hQ _ _ hM6_1512
                      · unfold qX11_passAct_J96
                        refine sX9_digit  hM6_1512  ?_
                        intro x12_1549 M12_1550 hM12_1550 gM12_1550 p1551 q1552
                        refine ⟨fun c => ?_, fun c => ?_⟩
                        · exact hQ _ _ hM12_1550
                        · exact hQ _ _ hM12_1550
                  · exact hQ _ _ hM6_1512
            · exact hQ _ _ hI
    · unfold qX11_passAct_J20
      unfold qX11_passAct_J25
      refine ⟨(by first | assumption | exact (by omega)), ?_⟩
      refine ⟨fun c => ?_, fun c => ?_⟩
      · unfold qX11_passAct_J50
        refine sX9_pass  hI  ?_
        intro M5_1559 hM5_1559 gM5_1559
        refine sX9_digit  hM5_1559  ?_
        intro x6_1560 M6_1561 hM6_1561 gM6_1561 p1562 q1563
        refine ⟨fun c => ?_, fun c => ?_⟩
        · exact hQ _ _ hM6_1561
        · refine ⟨(by first | assumption | exact (by omega)), ?_⟩
          refine ⟨fun c => ?_, fun c => ?_⟩
          · unfold qX11_passAct_J86
            refine ⟨(by first | assumption | exact (by omega)), ?_⟩
            refine ⟨fun c => ?_, fun c => ?_⟩
            · unfold qX11_passAct_J96
              refine sX9_digit  hM6_1561  ?_
              intro x12_1568 M12_1569 hM12_1569 gM12_1569 p1570 q1571
              refine ⟨fun c => ?_, fun c => ?_⟩
              · exact hQ _ _ hM12_1569
              · exact hQ _ _ hM12_1569
            · refine ⟨(by first | assumption | exact (by omega)), ?_⟩
              refine ⟨fun c => ?_, fun c => ?_⟩
              · exact hQ _ _ hM6_1561
              · unfold qX11_passAct_J96
                refine sX9_digit  hM6_1561  ?_
                intro x12_1577 M12_1578 hM12_1578 gM12_1578 p1579 q1580
                refine ⟨fun c => ?_, fun c => ?_⟩
                · exact hQ _ _ hM12_1578
                · exact hQ _ _ hM12_1578
          · refine sX9_look  hM6_1561  ?_
            intro x16_1584 p1585 q1586
            refine ⟨fun c => ?_, fun c => ?_⟩
            · unfold qX11_passAct_J86
              refine ⟨(by first | assumption | exact (by omega)), ?_⟩
              refine ⟨fun c => ?_, fun c => ?_⟩
              · unfold qX11_passAct_J96
                refine sX9_digit  hM6_1561  ?_
                intro x12_1589 M12_1590 hM12_1590 gM12_1590 p1591 q1592
                refine ⟨fun c => ?_, fun c => ?_⟩
                · exact hQ _ _ hM12_1590
                · exact hQ _ _ hM12_1590
              · refine ⟨(by first | assumption | exact (by omega)), ?_⟩
                refine ⟨fun c => ?_, fun c => ?_⟩
                · exact hQ _ _ hM6_1561
                · unfold qX11_passAct_J96
                  refine sX9_digit  hM6_1561  ?_
                  intro x12_1598 M12_1599 hM12_1599 gM12_1599 p1600 q1601
                  refine ⟨fun c => ?_, fun c => ?_⟩
                  · exact hQ _ _ hM12_1599
                  · exact hQ _ _ hM12_1599
            · exact hQ _ _ hM6_1561
      · refine ⟨(by first | assumption | exact (by omega)), ?_⟩
        refine ⟨fun c => ?_, fun c => ?_⟩
        · unfold qX11_passAct_J50
          refine sX9_pass  hI  ?_
          intro M5_1607 hM5_1607 gM5_1607
          refine sX9_digit  hM5_1607  ?_
          intro x6_1608 M6_1609 hM6_1609 gM6_1609 p1610 q1611
          refine ⟨fun c => ?_, fun c => ?_⟩
          · exact hQ _ _ hM6_1609
          · refine ⟨(by first | assumption | exact (by omega)), ?_⟩
            refine ⟨fun c => ?_, fun c => ?_⟩
            · unfold qX11_passAct_J86
              refine ⟨(by first | assumption | exact (by omega)), ?_⟩
              refine ⟨fun c => ?_, fun c => ?_⟩
              · unfold qX11_passAct_J96
                refine sX9_digit  hM6_1609  ?_
                intro x12_1616 M12_1617 hM12_1617 gM12_1617 p1618 q1619
                refine ⟨fun c => ?_, fun c => ?_⟩
                · exact hQ _ _ hM12_1617
                · exact hQ _ _ hM12_1617
              · refine ⟨(by first | assumption | exact (by omega)), ?_⟩
                refine ⟨fun c => ?_, fun c => ?_⟩
                · exact hQ _ _ hM6_1609
                · unfold qX11_passAct_J96
                  refine sX9_digit  hM6_1609  ?_
                  intro x12_1625 M12_1626 hM12_1626 gM12_1626 p1627 q1628
                  refine ⟨fun c => ?_, fun c => ?_⟩
                  · exact hQ _ _ hM12_1626
                  · exact hQ _ _ hM12_1626
            · refine sX9_look  hM6_1609  ?_
              intro x16_1632 p1633 q1634
              refine ⟨fun c => ?_, fun c => ?_⟩
              · unfold qX11_passAct_J86
                refine ⟨(by first | assumption | exact (by omega)), ?_⟩
                refine ⟨fun c => ?_, fun c => ?_⟩
                · unfold qX11_passAct_J96
                  refine sX9_digit  hM6_1609  ?_
                  intro x12_1637 M12_1638 hM12_1638 gM12_1638 p1639 q1640
                  refine ⟨fun c => ?_, fun c => ?_⟩
                  · exact hQ _ _ hM12_1638
                  · exact hQ _ _ hM12_1638
                · refine ⟨(by first | assumption | exact (by omega)), ?_⟩
                  refine ⟨fun c => ?_, fun c => ?_⟩
                  · exact hQ _ _ hM6_1609
                  · unfold qX11_passAct_J96
                    refine sX9_digit  hM6_1609  ?_
                    intro x12_1646 M12_1647 hM12_1647 gM12_1647 p1648 q1649
                    refine ⟨fun c => ?_, fun c => ?_⟩
                    · exact hQ _ _ hM12_1647
                    · exact hQ _ _ hM12_1647
              · exact hQ _ _ hM6_1609
        · refine ⟨fun c => ?_, fun c => ?_⟩
          · unfold qX11_passAct_J50
            refine sX9_pass  hI  ?_
            intro M5_1655 hM5_1655 gM5_1655
            refine sX9_digit  hM5_1655  ?_
            intro x6_1656 M6_1657 hM6_1657 gM6_1657 p1658 q1659
            refine ⟨fun c => ?_, fun c => ?_⟩
            · exact hQ _ _ hM6_1657
            · refine ⟨(by first | assumption | exact (by omega)), ?_⟩
              refine ⟨fun c => ?_, fun c => ?_⟩
              · unfold qX11_passAct_J86
                refine ⟨(by first | assumption | exact (by omega)), ?_⟩
                refine ⟨fun c => ?_, fun c => ?_⟩
                · unfold qX11_passAct_J96
                  refine sX9_digit  hM6_1657  ?_
                  intro x12_1664 M12_1665 hM12_1665 gM12_1665 p1666 q1667
                  refine ⟨fun c => ?_, fun c => ?_⟩
                  · exact hQ _ _ hM12_1665
                  · exact hQ _ _ hM12_1665
                · refine ⟨(by first | assumption | exact (by omega)), ?_⟩
                  refine ⟨fun c => ?_, fun c => ?_⟩
                  · exact hQ _ _ hM6_1657
                  · unfold qX11_passAct_J96
                    refine sX9_digit  hM6_1657  ?_
                    intro x12_1673 M12_1674 hM12_1674 gM12_1674 p1675 q1676
                    refine ⟨fun c => ?_, fun c => ?_⟩
                    · exact hQ _ _ hM12_1674
                    · exact hQ _ _ hM12_1674
              · refine sX9_look  hM6_1657  ?_
                intro x16_1680 p1681 q1682
                refine ⟨fun c => ?_, fun c => ?_⟩
                · unfold qX11_passAct_J86
                  refine ⟨(by first | assumption | exact (by omega)), ?_⟩
                  refine ⟨fun c => ?_, fun c => ?_⟩
                  · unfold qX11_passAct_J96
                    refine sX9_digit  hM6_1657  ?_
                    intro x12_1685 M12_1686 hM12_1686 gM12_1686 p1687 q1688
                    refine ⟨fun c => ?_, fun c => ?_⟩
                    · exact hQ _ _ hM12_1686
                    · exact hQ _ _ hM12_1686
                  · refine ⟨(by first | assumption | exact (by omega)), ?_⟩
                    refine ⟨fun c => ?_, fun c => ?_⟩
                    · exact hQ _ _ hM6_1657
                    · unfold qX11_passAct_J96
                      refine sX9_digit  hM6_1657  ?_
                      intro x12_1694 M12_1695 hM12_1695 gM12_1695 p1696 q1697
                      refine ⟨fun c => ?_, fun c => ?_⟩
                      · exact hQ _ _ hM12_1695
                      · exact hQ _ _ hM12_1695
                · exact hQ _ _ hM6_1657
          · refine ⟨fun c => ?_, fun c => ?_⟩
            · unfold qX11_passAct_J50
              refine sX9_pass  hI  ?_
              intro M5_1703 hM5_1703 gM5_1703
              refine sX9_digit  hM5_1703  ?_
              intro x6_1704 M6_1705 hM6_1705 gM6_1705 p1706 q1707
              refine ⟨fun c => ?_, fun c => ?_⟩
              · exact hQ _ _ hM6_1705
              · refine ⟨(by first | assumption | exact (by omega)), ?_⟩
                refine ⟨fun c => ?_, fun c => ?_⟩
                · unfold qX11_passAct_J86
                  refine ⟨(by first | assumption | exact (by omega)), ?_⟩
                  refine ⟨fun c => ?_, fun c => ?_⟩
                  · unfold qX11_passAct_J96
                    refine sX9_digit  hM6_1705  ?_
                    intro x12_1712 M12_1713 hM12_1713 gM12_1713 p1714 q1715
                    refine ⟨fun c => ?_, fun c => ?_⟩
                    · exact hQ _ _ hM12_1713
                    · exact hQ _ _ hM12_1713
                  · refine ⟨(by first | assumption | exact (by omega)), ?_⟩
                    refine ⟨fun c => ?_, fun c => ?_⟩
                    · exact hQ _ _ hM6_1705
                    · unfold qX11_passAct_J96
                      refine sX9_digit  hM6_1705  ?_
                      intro x12_1721 M12_1722 hM12_1722 gM12_1722 p1723 q1724
                      refine ⟨fun c => ?_, fun c => ?_⟩
                      · exact hQ _ _ hM12_1722
                      · exact hQ _ _ hM12_1722
                · refine sX9_look  hM6_1705  ?_
                  intro x16_1728 p1729 q1730
                  refine ⟨fun c => ?_, fun c => ?_⟩
                  · unfold qX11_passAct_J86
                    refine ⟨(by first | assumption | exact (by omega)), ?_⟩
                    refine ⟨fun c => ?_, fun c => ?_⟩
                    · unfold qX11_passAct_J96
                      refine sX9_digit  hM6_1705  ?_
                      intro x12_1733 M12_1734 hM12_1734 gM12_1734 p1735 q1736
                      refine ⟨fun c => ?_, fun c => ?_⟩
                      · exact hQ _ _ hM12_1734
                      · exact hQ _ _ hM12_1734
                    · refine ⟨(by first | assumption | exact (by omega)), ?_⟩
                      refine ⟨fun c => ?_, fun c => ?_⟩
                      · exact hQ _ _ hM6_1705
                      · unfold qX11_passAct_J96
                        refine sX9_digit  hM6_1705  ?_
                        intro x12_1742 M12_1743 hM12_1743 gM12_1743 p1744 q1745
                        refine ⟨fun c => ?_, fun c => ?_⟩
                        · exact hQ _ _ hM12_1743
                        · exact hQ _ _ hM12_1743
                  · exact hQ _ _ hM6_1705
            · exact hQ _ _ hI
theorem sX11_hourFault_L11  {X48 : Mem → Prop} {Q : Int → Mem → Prop} (hQ : ∀ z : Int, ∀ M' : Mem, IX M' → (-1 ≤ z ∧ z ≤ 80) → Q z M') (hX48 : ∀ M' : Mem, IX M' → X48 M') : ∀ (n : Nat) (v1 : Int) (M : Mem), IX M → (0 ≤ v1 ∧ v1 ≤ 60) → 60 - v1 < (n : Int) → qX11_hourFault_L11 X48 Q n v1 M := by
  intro n
  induction n with
  | zero => intro v1 M hI hv hm; exact absurd hm (by omega)
  | succ n ih =>
    intro v1 M hI hv hm
    rw [qX11_hourFault_L11]
    refine ⟨(by first | assumption | exact (by omega)), ?_⟩
    refine ⟨fun c => ?_, fun c => ?_⟩
    · exact hX48 _ hI
    · refine sX9_isRead  hI  ?_
      intro x4_1752 q1753 q1754
      refine ⟨fun c => ?_, fun c => ?_⟩
      · exact hX48 _ hI
      · refine sX11_passAct  hI  ?_
        intro x6_1757 M6_1758 hM6_1758 q1759 q1760
        refine ⟨fun c => ?_, fun c => ?_⟩
        · exact ih _ _ hM6_1758 (by omega) (by omega)
        · intro x8_1763 ex8_1763 rx8_1763
          have bx8_1763 : 0 ≤ x8_1763 ∧ x8_1763 ≤ 80 := by rw [ex8_1763]; exact (bx_c156_2).mp (hM6_1758.bx _ _)
          exact hQ _ _ hM6_1758 (by omega)
theorem sX11_hourFault  {M : Mem} {Q : Int → Mem → Prop} (hI : IX M) (hQ : ∀ z : Int, ∀ M' : Mem, IX M' → (-1 ≤ z ∧ z ≤ 80) → Q z M') : qX11_hourFault M Q := by
  unfold qX11_hourFault
  refine sX9_open (p1 := 60) hI (by omega) ?_
  intro M1_1764 hM1_1764 gM1_1764
  refine ⟨61, ?_⟩
  refine sX11_hourFault_L11 ?_ ?_ _ _ _ hM1_1764 (by omega) (by omega)
  · exact hQ
  · intro M_1765 hM_1765
    unfold qX11_hourFault_J48
    refine sX9_isWhole  hM_1765  ?_
    intro x10_1766 q1767 q1768
    refine ⟨fun c => ?_, fun c => ?_⟩
    · intro x12_1770 ex12_1770 rx12_1770
      have bx12_1770 : 0 ≤ x12_1770 ∧ x12_1770 ≤ 80 := by rw [ex12_1770]; exact (bx_c156_2).mp (hM_1765.bx _ _)
      exact hQ _ _ hM_1765 (by omega)
    · exact hQ _ _ hM_1765 (by omega)
theorem sX11_hour_L32  {X92 : Int → Int → Int → Mem → Prop} {Q : Int → Mem → Prop} (hQ : ∀ z : Int, ∀ M' : Mem, IX M' → Q z M') (hX92 : ∀ w1 w2 w3 : Int, ∀ M' : Mem, IX M' → (-1 ≤ w1 ∧ w1 ≤ 80 ∧ 0 ≤ w2 ∧ w2 ≤ 60 ∧ 0 ≤ w3 ∧ w3 ≤ 1) → X92 w1 w2 w3 M') : ∀ (n : Nat) (v1 v2 v3 v4 : Int) (M : Mem), IX M → (-1 ≤ v1 ∧ v1 ≤ 80 ∧ 0 ≤ v2 ∧ v2 ≤ v4 ∧ 0 ≤ v3 ∧ v3 ≤ 1 ∧ 0 ≤ v4 ∧ v4 ≤ 60) → 60 - v4 < (n : Int) → qX11_hour_L32 X92 Q n v1 v2 v3 v4 M := by
  intro n
  induction n with
  | zero => intro v1 v2 v3 v4 M hI hv hm; exact absurd hm (by omega)
  | succ n ih =>
    intro v1 v2 v3 v4 M hI hv hm
    rw [qX11_hour_L32]
    refine ⟨(by first | assumption | exact (by omega)), ?_⟩
    refine ⟨fun c => ?_, fun c => ?_⟩
    · exact hX92 _ _ _ _ hI (by omega)
    · refine ⟨(by first | assumption | exact (by omega)), ?_⟩
      refine ⟨fun c => ?_, fun c => ?_⟩
      · exact hX92 _ _ _ _ hI (by omega)
      · refine ⟨(by first | assumption | exact (by omega)), ?_⟩
        refine ⟨fun c => ?_, fun c => ?_⟩
        · exact hX92 _ _ _ _ hI (by omega)
        · refine sX9_isRead  hI  ?_
          intro x10_1778 q1779 q1780
          refine ⟨fun c => ?_, fun c => ?_⟩
          · exact hX92 _ _ _ _ hI (by omega)
          · refine sX11_doAct  hI  ?_
            intro x12_1783 M12_1784 hM12_1784 q1785
            refine sX11_isDone (p0 := x12_1783) hM12_1784  ?_
            intro x13_1786 q1787 q1788
            refine ⟨fun c => ?_, fun c => ?_⟩
            · unfold qX11_hour_J73
              refine ⟨(by first | assumption | exact (by omega)), ?_⟩
              refine ⟨fun c => ?_, fun c => ?_⟩
              · exact ih _ _ _ _ _ hM12_1784 (by omega) (by omega)
              · exact ih _ _ _ _ _ hM12_1784 (by omega) (by omega)
            · unfold qX11_hour_J73
              refine ⟨(by first | assumption | exact (by omega)), ?_⟩
              refine ⟨fun c => ?_, fun c => ?_⟩
              · exact ih _ _ _ _ _ hM12_1784 (by omega) (by omega)
              · exact ih _ _ _ _ _ hM12_1784 (by omega) (by omega)
theorem sX11_hour  {M : Mem} {Q : Int → Mem → Prop} (hI : IX M) (hQ : ∀ z : Int, ∀ M' : Mem, IX M' → Q z M') : qX11_hour M Q := by
  unfold qX11_hour
  refine sX11_hourFault  hI  ?_
  intro x1_1795 M1_1796 hM1_1796 p1797 q1798
  refine sX6_copyFrom  hM1_1796 (show isS 22 by decide) (show isS 1 by decide) ?_
  intro M2_1799 hM2_1799 gM2_1799
  refine sX9_open (p1 := 60) hM2_1799 (by omega) ?_
  intro M3_1800 hM3_1800 gM3_1800
  refine ⟨61, ?_⟩
  refine sX11_hour_L32 ?_ ?_ _ _ _ _ _ _ hM3_1800 (by omega) (by omega)
  · exact hQ
  · intro v1_1801 v2_1802 v3_1803 M_1804 hM_1804 p1805
    unfold qX11_hour_J92
    refine sX9_clear  hM_1804  ?_
    intro M18_1806 hM18_1806 gM18_1806
    refine ⟨(by first | assumption | exact (by omega)), ?_⟩
    refine ⟨fun c => ?_, fun c => ?_⟩
    · refine ⟨(by first | assumption | exact (by omega)), ?_⟩
      refine ⟨fun c => ?_, fun c => ?_⟩
      · unfold qX11_hour_J123
        refine ⟨(by first | assumption | exact (by omega)), ?_⟩
        refine ⟨fun c => ?_, fun c => ?_⟩
        · unfold qX11_hour_J136
          intro x25_1810 ex25_1810 rx25_1810
          have bx25_1810 : -2147483648 ≤ x25_1810 ∧ x25_1810 ≤ 2147483647 := rx25_1810
          refine ⟨(by first | assumption | exact (by omega) | exact iR_lR (by first | assumption | exact (by omega))), ?_⟩
          refine sX4_tellTwo (p1 := 0) (p3 := x25_1810) hM18_1806  ?_
          intro M27_1811 hM27_1811
          refine ⟨(by first | assumption | exact (by omega)), ?_⟩
          exact hQ _ _ hM27_1811
        · unfold qX11_hour_J136
          intro x25_1813 ex25_1813 rx25_1813
          have bx25_1813 : -2147483648 ≤ x25_1813 ∧ x25_1813 ≤ 2147483647 := rx25_1813
          refine ⟨(by first | assumption | exact (by omega) | exact iR_lR (by first | assumption | exact (by omega))), ?_⟩
          refine sX4_tellTwo (p1 := 1) (p3 := x25_1813) hM18_1806  ?_
          intro M27_1814 hM27_1814
          refine ⟨(by first | assumption | exact (by omega)), ?_⟩
          exact hQ _ _ hM27_1814
      · refine sX1_add  hM18_1806 (show isS 22 by decide) ?_
        intro M29_1816 hM29_1816
        unfold qX11_hour_J123
        refine ⟨(by first | assumption | exact (by omega)), ?_⟩
        refine ⟨fun c => ?_, fun c => ?_⟩
        · unfold qX11_hour_J136
          intro x25_1818 ex25_1818 rx25_1818
          have bx25_1818 : -2147483648 ≤ x25_1818 ∧ x25_1818 ≤ 2147483647 := rx25_1818
          refine ⟨(by first | assumption | exact (by omega) | exact iR_lR (by first | assumption | exact (by omega))), ?_⟩
          refine sX4_tellTwo (p1 := 0) (p3 := x25_1818) hM29_1816  ?_
          intro M27_1819 hM27_1819
          refine ⟨(by first | assumption | exact (by omega)), ?_⟩
          exact hQ _ _ hM27_1819
        · unfold qX11_hour_J136
          intro x25_1821 ex25_1821 rx25_1821
          have bx25_1821 : -2147483648 ≤ x25_1821 ∧ x25_1821 ≤ 2147483647 := rx25_1821
          refine ⟨(by first | assumption | exact (by omega) | exact iR_lR (by first | assumption | exact (by omega))), ?_⟩
          refine sX4_tellTwo (p1 := 1) (p3 := x25_1821) hM29_1816  ?_
          intro M27_1822 hM27_1822
          refine ⟨(by first | assumption | exact (by omega)), ?_⟩
          exact hQ _ _ hM27_1822
    · refine ⟨(by first | assumption | exact (by omega)), ?_⟩
      exact hQ _ _ hM18_1806
theorem sX1_takeBack {k1 : Nat} {M : Mem} {Q : Int → Mem → Prop} (hI : IX M) (hk1 : isS k1) (hQ : ∀ z : Int, ∀ M' : Mem, IX M' → Q z M') : qX1_takeBack k1 M Q := by
  unfold qX1_takeBack
  have ek1 : 0 < k1 ∧ k1 < 155 ∧ (k1 - 1) % 7 = 0 := hk1
  intro x1_1824 ex1_1824 rx1_1824
  have bx1_1824 : 0 ≤ x1_1824 ∧ x1_1824 ≤ 15 := by rw [ex1_1824]; exact (bx_c163_2).mp (hI.bx _ _)
  refine ⟨fun c => ?_, fun c => ?_⟩
  · intro x3_1826 ex3_1826 rx3_1826
    have bx3_1826 : 0 ≤ x3_1826 ∧ x3_1826 ≤ 15 := by rw [ex3_1826]; exact (bx_c163_2).mp (hI.bx _ _)
    refine ⟨(by first | assumption | exact (by omega)), ?_⟩
    intro M5_1827 h_M5_1827
    have hM5_1827 : IX M5_1827 := by rw [h_M5_1827]; exact hI.up (by decide) ((bx_c163_2).mpr (by omega))
    intro x6_1828 ex6_1828 rx6_1828
    have bx6_1828 : 0 ≤ x6_1828 ∧ x6_1828 ≤ 14 := by rw [ex6_1828]; exact (bx_c163_1).mp (hM5_1827.bx _ _)
    have fx6_1828 : x6_1828 = M 163 1 := by rw [ex6_1828, h_M5_1827, up2_j (by decide)]
    intro x7_1829 ex7_1829 rx7_1829
    have bx7_1829 : 0 ≤ x7_1829 ∧ x7_1829 ≤ 15 := by rw [ex7_1829]; exact (bx_c163_2).mp (hM5_1827.bx _ _)
    have fx7_1829 : x7_1829 = x3_1826 - 1 := by rw [ex7_1829, h_M5_1827, up2_s]
    intro x8_1830 ex8_1830 rx8_1830
    first | (have fx8_1830 := rmI_b (a := x6_1828 + x7_1829) (b := 15) (by omega) (by omega); rw [← ex8_1830] at fx8_1830) | skip
    refine ⟨by omega, ?_⟩
    refine ⟨by omega, ?_⟩
    refine sX6_copyFrom  hM5_1827 hk1 (isS_hist (e := x8_1830) (by omega) (by omega)) ?_
    intro M11_1831 hM11_1831 gM11_1831
    exact hQ _ _ hM11_1831
  · exact hQ _ _ hI
theorem sX11_undo  {M : Mem} {Q : Int → Mem → Prop} (hI : IX M) (hQ : ∀ z : Int, ∀ M' : Mem, IX M' → Q z M') : qX11_undo M Q := by
  unfold qX11_undo
  refine sX1_takeBack  hI (show isS 1 by decide) ?_
  intro x1_1833 M1_1834 hM1_1834 q1835 q1836
  refine ⟨fun c => ?_, fun c => ?_⟩
  · exact hQ _ _ hM1_1834
  · intro x3_1839 ex3_1839 rx3_1839
    have bx3_1839 : 0 ≤ x3_1839 ∧ x3_1839 ≤ 15 := by rw [ex3_1839]; exact (bx_c163_2).mp (hM1_1834.bx _ _)
    exact hQ _ _ hM1_1834
theorem sX11_line_L17   {Q : Int → Mem → Prop} (hQ : ∀ z : Int, ∀ M' : Mem, IX M' → Q z M') : ∀ (n : Nat) (v1 v2 : Int) (M : Mem), IX M → (-1 ≤ v1 ∧ v1 ≤ 30 ∧ 0 ≤ v2 ∧ v2 ≤ 6) → 6 - v2 < (n : Int) → qX11_line_L17 Q n v1 v2 M := by
  intro n
  induction n with
  | zero => intro v1 v2 M hI hv hm; exact absurd hm (by omega)
  | succ n ih =>
    intro v1 v2 M hI hv hm
    rw [qX11_line_L17]
    refine ⟨(by first | assumption | exact (by omega)), ?_⟩
    refine ⟨fun c => ?_, fun c => ?_⟩
    · intro x5_1841 ex5_1841 rx5_1841
      have bx5_1841 : 0 ≤ x5_1841 ∧ x5_1841 ≤ 8 := by rw [ex5_1841]; exact (bx_c167_1).mp (hI.bx _ _)
      exact hQ _ _ hI
    · refine ⟨(by first | assumption | exact (by omega)), ?_⟩
      refine sX6_foremostBelow (p1 := v1) hI (show isS 1 by decide) ?_
      intro x7_1843 p1844 q1845
      refine ⟨fun c => ?_, fun c => ?_⟩
      · refine ⟨by omega, ?_⟩
        refine ⟨by omega, ?_⟩
        intro x11_1847 ex11_1847 rx11_1847
        have bx11_1847 : -1 ≤ x11_1847 ∧ x11_1847 ≤ 29 := by rw [ex11_1847]; exact (bx_s1 (show isS 1 by decide)).mp (hI.bx _ _)
        refine sX4_add (p1 := x7_1843) hI  ?_
        intro M12_1848 hM12_1848
        exact ih _ _ _ hM12_1848 (by omega) (by omega)
      · intro x13_1850 ex13_1850 rx13_1850
        have bx13_1850 : 0 ≤ x13_1850 ∧ x13_1850 ≤ 8 := by rw [ex13_1850]; exact (bx_c167_1).mp (hI.bx _ _)
        exact hQ _ _ hI
theorem sX11_line  {M : Mem} {Q : Int → Mem → Prop} (hI : IX M) (hQ : ∀ z : Int, ∀ M' : Mem, IX M' → Q z M') : qX11_line M Q := by
  unfold qX11_line
  refine sX4_clear  hI  ?_
  intro M1_1851 hM1_1851
  intro x2_1852 ex2_1852 rx2_1852
  have bx2_1852 : 4 ≤ x2_1852 ∧ x2_1852 ≤ 30 := by rw [ex2_1852]; exact (bx_c158_1).mp (hM1_1851.bx _ _)
  refine ⟨7, ?_⟩
  refine sX11_line_L17 ?_ _ _ _ _ hM1_1851 (by omega) (by omega)
  · exact hQ
theorem sX11_ahead_L48 {p1 : Int}  {Q : Int → Mem → Prop} (hQ : ∀ z : Int, ∀ M' : Mem, IX M' → Q z M') : ∀ (n : Nat) (v2 : Int) (M : Mem), IX M → (0 ≤ v2 ∧ v2 ≤ 6) → 6 - v2 < (n : Int) → qX11_ahead_L48 p1 Q n v2 M := by
  intro n
  induction n with
  | zero => intro v2 M hI hv hm; exact absurd hm (by omega)
  | succ n ih =>
    intro v2 M hI hv hm
    rw [qX11_ahead_L48]
    intro x7_1853 ex7_1853 rx7_1853
    have bx7_1853 : 0 ≤ x7_1853 ∧ x7_1853 ≤ 6 := by rw [ex7_1853]; exact (bx_s0_6 (show isS 8 by decide)).mp (hI.bx _ _)
    refine ⟨(by first | assumption | exact (by omega)), ?_⟩
    refine ⟨fun c => ?_, fun c => ?_⟩
    · intro x10_1855 ex10_1855 rx10_1855
      have bx10_1855 : -2147483648 ≤ x10_1855 ∧ x10_1855 ≤ 2147483647 := rx10_1855
      exact hQ _ _ hI
    · refine ⟨by omega, ?_⟩
      refine ⟨by omega, ?_⟩
      intro x13_1857 ex13_1857 rx13_1857
      have bx13_1857 : -1 ≤ x13_1857 ∧ x13_1857 ≤ 29 := by rw [ex13_1857]; exact (bx_s1 (show isS 8 by decide)).mp (hI.bx _ _)
      refine sX4_add (p1 := x13_1857) hI  ?_
      intro M14_1858 hM14_1858
      exact ih _ _ hM14_1858 (by omega) (by omega)
theorem sX11_ahead {p1 : Int} {M : Mem} {Q : Int → Mem → Prop} (hI : IX M) (hQ : ∀ z : Int, ∀ M' : Mem, IX M' → Q z M') : qX11_ahead p1 M Q := by
  unfold qX11_ahead
  refine ⟨fun c => ?_, fun c => ?_⟩
  · exact hQ _ _ hI
  · refine ⟨fun c => ?_, fun c => ?_⟩
    · refine sX6_copyFrom  hI (show isS 8 by decide) (show isS 1 by decide) ?_
      intro M3_1862 hM3_1862 gM3_1862
      refine ⟨(hM3_1862).l16, ?_⟩
      refine sX10_walk (p3 := p1) hM3_1862 (show isS 8 by decide) (hM3_1862).l16 (by omega) ?_
      intro M5_1863 hM5_1863
      refine sX4_clear  hM5_1863  ?_
      intro M6_1864 hM6_1864
      refine ⟨7, ?_⟩
      refine sX11_ahead_L48 ?_ _ _ _ hM6_1864 (by omega) (by omega)
      · exact hQ
    · exact hQ _ _ hI
theorem sX4_tellOne {p1 : Int} {M : Mem} {Q : Mem → Prop} (hI : IX M) (hQ : ∀ M' : Mem, IX M' → Q M') : qX4_tellOne p1 M Q := by
  unfold qX4_tellOne
  refine sX4_clear  hI  ?_
  intro M1_1866 hM1_1866
  refine sX4_add (p1 := p1) hM1_1866  ?_
  intro M2_1867 hM2_1867
  exact hQ _ hM2_1867
theorem sX11_arrives_L26 {p1 : Int} {X65 : Int → Mem → Prop} {Q : Int → Mem → Prop} (hQ : ∀ z : Int, ∀ M' : Mem, IX M' → Q z M') (hX65 : ∀ w1 : Int, ∀ M' : Mem, IX M' → (0 ≤ w1 ∧ w1 ≤ 200 ∧ 0 ≤ p1 ∧ p1 ≤ 5) → X65 w1 M') : ∀ (n : Nat) (v2 : Int) (M : Mem), IX M → (0 ≤ v2 ∧ v2 ≤ 200 ∧ 0 ≤ p1 ∧ p1 ≤ 5) → 200 - v2 < (n : Int) → qX11_arrives_L26 p1 X65 Q n v2 M := by
  intro n
  induction n with
  | zero => intro v2 M hI hv hm; exact absurd hm (by omega)
  | succ n ih =>
    intro v2 M hI hv hm
    rw [qX11_arrives_L26]
    refine ⟨(by first | assumption | exact (by omega)), ?_⟩
    refine ⟨fun c => ?_, fun c => ?_⟩
    · exact hX65 _ _ hI (by omega)
    · refine sX6_hasArrived (p1 := p1) hI (show isS 8 by decide) (by omega) ?_
      intro x6_1870 q1871 q1872
      refine ⟨fun c => ?_, fun c => ?_⟩
      · exact hX65 _ _ hI (by omega)
      · refine ⟨(hI).l16, ?_⟩
        refine sX10_advance  hI (show isS 8 by decide) (hI).l16 ?_
        intro M9_1875 hM9_1875
        exact ih _ _ hM9_1875 (by omega) (by omega)
theorem sX11_arrives {p1 : Int} {M : Mem} {Q : Int → Mem → Prop} (hI : IX M) (hQ : ∀ z : Int, ∀ M' : Mem, IX M' → Q z M') : qX11_arrives p1 M Q := by
  unfold qX11_arrives
  refine sX6_isHearse (p1 := p1) hI (show isS 1 by decide) ?_
  intro x1_1876 p1877 q1878 q1879
  refine ⟨fun c => ?_, fun c => ?_⟩
  · refine sX6_copyFrom  hI (show isS 8 by decide) (show isS 1 by decide) ?_
    intro M3_1881 hM3_1881 gM3_1881
    refine ⟨201, ?_⟩
    refine sX11_arrives_L26 ?_ ?_ _ _ _ hM3_1881 (by omega) (by omega)
    · exact hQ
    · intro v2_1882 M_1883 hM_1883 p1884
      unfold qX11_arrives_J65
      refine sX6_hasArrived (p1 := p1) hM_1883 (show isS 8 by decide) (by omega) ?_
      intro x11_1885 q1886 q1887
      refine ⟨fun c => ?_, fun c => ?_⟩
      · refine ⟨by omega, ?_⟩
        refine ⟨by omega, ?_⟩
        intro x15_1889 ex15_1889 rx15_1889
        have bx15_1889 : -2147483648 ≤ x15_1889 ∧ x15_1889 ≤ 2147483647 := rx15_1889
        refine sX4_tellOne (p1 := x15_1889) hM_1883  ?_
        intro M16_1890 hM16_1890
        refine ⟨(by first | assumption | exact (by omega)), ?_⟩
        exact hQ _ _ hM16_1890
      · exact hQ _ _ hM_1883
  · exact hQ _ _ hI
theorem sX11_jam_L44 {p1 : Int} {X84 : Int → Mem → Prop} {Q : Int → Mem → Prop} (hQ : ∀ z : Int, ∀ M' : Mem, IX M' → Q z M') (hX84 : ∀ w1 : Int, ∀ M' : Mem, IX M' → (0 ≤ w1 ∧ w1 ≤ 29) → X84 w1 M') : ∀ (n : Nat) (v2 v3 : Int) (M : Mem), IX M → (0 ≤ v2 ∧ v2 ≤ 29 ∧ 1 ≤ v3 ∧ v3 ≤ 30) → 30 - v3 < (n : Int) → qX11_jam_L44 p1 X84 Q n v2 v3 M := by
  intro n
  induction n with
  | zero => intro v2 v3 M hI hv hm; exact absurd hm (by omega)
  | succ n ih =>
    intro v2 v3 M hI hv hm
    rw [qX11_jam_L44]
    intro x6_1893 ex6_1893 rx6_1893
    have bx6_1893 : 4 ≤ x6_1893 ∧ x6_1893 ≤ 30 := by rw [ex6_1893]; exact (bx_c158_1).mp (hI.bx _ _)
    refine ⟨(by first | assumption | exact (by omega)), ?_⟩
    refine ⟨fun c => ?_, fun c => ?_⟩
    · exact hX84 _ _ hI (by omega)
    · refine ⟨by omega, ?_⟩
      refine ⟨by omega, ?_⟩
      intro x11_1896 ex11_1896 rx11_1896
      have bx11_1896 : -2147483648 ≤ x11_1896 ∧ x11_1896 ≤ 2147483647 := rx11_1896
      refine ⟨by omega, ?_⟩
      refine ⟨by omega, ?_⟩
      intro x14_1897 ex14_1897 rx14_1897
      have bx14_1897 : -2147483648 ≤ x14_1897 ∧ x14_1897 ≤ 2147483647 := rx14_1897
      refine ⟨fun c => ?_, fun c => ?_⟩
      · exact ih _ _ _ hI (by omega) (by omega)
      · exact ih _ _ _ hI (by omega) (by omega)
theorem sX11_jam {p1 : Int} {M : Mem} {Q : Int → Mem → Prop} (hI : IX M) (hQ : ∀ z : Int, ∀ M' : Mem, IX M' → Q z M') : qX11_jam p1 M Q := by
  unfold qX11_jam
  refine ⟨fun c => ?_, fun c => ?_⟩
  · exact hQ _ _ hI
  · refine ⟨fun c => ?_, fun c => ?_⟩
    · refine sX6_copyFrom  hI (show isS 8 by decide) (show isS 1 by decide) ?_
      intro M3_1903 hM3_1903 gM3_1903
      refine ⟨(hM3_1903).l16, ?_⟩
      refine sX10_walk (p3 := p1) hM3_1903 (show isS 8 by decide) (hM3_1903).l16 (by omega) ?_
      intro M5_1904 hM5_1904
      refine ⟨31, ?_⟩
      refine sX11_jam_L44 ?_ ?_ _ _ _ _ hM5_1904 (by omega) (by omega)
      · exact hQ
      · intro v2_1905 M_1906 hM_1906 p1907
        refine ⟨by omega, ?_⟩
        refine ⟨by omega, ?_⟩
        intro x19_1908 ex19_1908 rx19_1908
        have bx19_1908 : -2147483648 ≤ x19_1908 ∧ x19_1908 ≤ 2147483647 := rx19_1908
        intro x20_1909 ex20_1909 rx20_1909
        have bx20_1909 : -2147483648 ≤ x20_1909 ∧ x20_1909 ≤ 2147483647 := rx20_1909
        refine sX4_tellTwo (p1 := x19_1908) (p3 := x20_1909) hM_1906  ?_
        intro M21_1910 hM21_1910
        refine ⟨(by first | assumption | exact (by omega)), ?_⟩
        exact hQ _ _ hM21_1910
    · exact hQ _ _ hI
theorem sX6_isAheadOf {k0 : Nat} {p1 : Int} {p2 : Int} {M : Mem} {Q : Int → Mem → Prop} (hI : IX M) (hk0 : isS k0) (hp : 0 ≤ p1 ∧ p1 ≤ 5 ∧ 0 ≤ p2 ∧ p2 ≤ 5) (hQ : ∀ z : Int, Q z M) : qX6_isAheadOf k0 p1 p2 M Q := by
  unfold qX6_isAheadOf
  have ek0 : 0 < k0 ∧ k0 < 155 ∧ (k0 - 1) % 7 = 0 := hk0
  refine sX6_hasArrived (p1 := p1) hI hk0 (by omega) ?_
  intro x1_1912 q1913 q1914
  refine ⟨fun c => ?_, fun c => ?_⟩
  · refine sX6_hasArrived (p1 := p2) hI hk0 (by omega) ?_
    intro x3_1916 q1917 q1918
    refine ⟨fun c => ?_, fun c => ?_⟩
    · exact hQ _
    · refine ⟨by omega, ?_⟩
      refine ⟨by omega, ?_⟩
      intro x7_1921 ex7_1921 rx7_1921
      have bx7_1921 : -1 ≤ x7_1921 ∧ x7_1921 ≤ 29 := by rw [ex7_1921]; exact (bx_s1 hk0).mp (hI.bx _ _)
      refine ⟨by omega, ?_⟩
      refine ⟨by omega, ?_⟩
      intro x10_1922 ex10_1922 rx10_1922
      have bx10_1922 : -1 ≤ x10_1922 ∧ x10_1922 ≤ 29 := by rw [ex10_1922]; exact (bx_s1 hk0).mp (hI.bx _ _)
      refine ⟨fun c => ?_, fun c => ?_⟩
      · exact hQ _
      · exact hQ _
  · refine sX6_hasArrived (p1 := p2) hI hk0 (by omega) ?_
    intro x12_1926 q1927 q1928
    refine ⟨fun c => ?_, fun c => ?_⟩
    · exact hQ _
    · refine ⟨by omega, ?_⟩
      refine ⟨by omega, ?_⟩
      intro x16_1931 ex16_1931 rx16_1931
      have bx16_1931 : -2147483648 ≤ x16_1931 ∧ x16_1931 ≤ 2147483647 := rx16_1931
      refine ⟨by omega, ?_⟩
      refine ⟨by omega, ?_⟩
      intro x19_1932 ex19_1932 rx19_1932
      have bx19_1932 : -2147483648 ≤ x19_1932 ∧ x19_1932 ≤ 2147483647 := rx19_1932
      refine ⟨fun c => ?_, fun c => ?_⟩
      · exact hQ _
      · exact hQ _
end
section
theorem sX11_passes_L88 {p1 : Int} {p2 : Int} {X121 : Int → Mem → Prop} {Q : Int → Mem → Prop} (hQ : ∀ z : Int, ∀ M' : Mem, IX M' → Q z M') (hX121 : ∀ w1 : Int, ∀ M' : Mem, IX M' → (1 ≤ w1 ∧ w1 ≤ 61 ∧ 0 ≤ p1 ∧ p1 ≤ 5) → X121 w1 M') : ∀ (n : Nat) (v3 : Int) (M : Mem), IX M → (1 ≤ v3 ∧ v3 ≤ 61 ∧ 0 ≤ p1 ∧ p1 ≤ 5 ∧ 0 ≤ p2 ∧ p2 ≤ 5) → 61 - v3 < (n : Int) → qX11_passes_L88 p1 p2 X121 Q n v3 M := by
  intro n
  induction n with
  | zero => intro v3 M hI hv hm; exact absurd hm (by omega)
  | succ n ih =>
    intro v3 M hI hv hm
    rw [qX11_passes_L88]
    refine ⟨(by first | assumption | exact (by omega)), ?_⟩
    refine ⟨fun c => ?_, fun c => ?_⟩
    · exact hQ _ _ hI
    · refine ⟨(hI).l16, ?_⟩
      refine sX10_advance  hI (show isS 8 by decide) (hI).l16 ?_
      intro M21_1937 hM21_1937
      refine sX6_isAheadOf (p1 := p1) (p2 := p2) hM21_1937 (show isS 8 by decide) (by omega) ?_
      intro x22_1938 q1939 q1940
      refine ⟨fun c => ?_, fun c => ?_⟩
      · exact ih _ _ hM21_1937 (by omega) (by omega)
      · exact hX121 _ _ hM21_1937 (by omega)
theorem sX11_passes {p1 : Int} {p2 : Int} {M : Mem} {Q : Int → Mem → Prop} (hI : IX M) (hQ : ∀ z : Int, ∀ M' : Mem, IX M' → Q z M') : qX11_passes p1 p2 M Q := by
  unfold qX11_passes
  refine sX6_isHearse (p1 := p1) hI (show isS 1 by decide) ?_
  intro x1_1943 p1944 q1945 q1946
  refine ⟨fun c => ?_, fun c => ?_⟩
  · exact hQ _ _ hI
  · refine sX6_isHearse (p1 := p2) hI (show isS 1 by decide) ?_
    intro x3_1949 p1950 q1951 q1952
    refine ⟨fun c => ?_, fun c => ?_⟩
    · exact hQ _ _ hI
    · refine ⟨fun c => ?_, fun c => ?_⟩
      · refine sX6_hasArrived (p1 := p1) hI (show isS 1 by decide) (by omega) ?_
        intro x6_1956 q1957 q1958
        refine ⟨fun c => ?_, fun c => ?_⟩
        · exact hQ _ _ hI
        · refine sX6_hasArrived (p1 := p2) hI (show isS 1 by decide) (by omega) ?_
          intro x8_1961 q1962 q1963
          refine ⟨fun c => ?_, fun c => ?_⟩
          · exact hQ _ _ hI
          · refine ⟨by omega, ?_⟩
            refine ⟨by omega, ?_⟩
            intro x12_1966 ex12_1966 rx12_1966
            have bx12_1966 : -1 ≤ x12_1966 ∧ x12_1966 ≤ 29 := by rw [ex12_1966]; exact (bx_s1 (show isS 1 by decide)).mp (hI.bx _ _)
            refine ⟨by omega, ?_⟩
            refine ⟨by omega, ?_⟩
            intro x15_1967 ex15_1967 rx15_1967
            have bx15_1967 : -1 ≤ x15_1967 ∧ x15_1967 ≤ 29 := by rw [ex15_1967]; exact (bx_s1 (show isS 1 by decide)).mp (hI.bx _ _)
            refine ⟨fun c => ?_, fun c => ?_⟩
            · refine sX6_copyFrom  hI (show isS 8 by decide) (show isS 1 by decide) ?_
              intro M17_1969 hM17_1969 gM17_1969
              refine ⟨62, ?_⟩
              refine sX11_passes_L88 ?_ ?_ _ _ _ hM17_1969 (by omega) (by omega)
              · exact hQ
              · intro v3_1970 M_1971 hM_1971 p1972
                refine ⟨by omega, ?_⟩
                refine ⟨by omega, ?_⟩
                intro x27_1973 ex27_1973 rx27_1973
                have bx27_1973 : -1 ≤ x27_1973 ∧ x27_1973 ≤ 29 := by rw [ex27_1973]; exact (bx_s1 (show isS 8 by decide)).mp (hM_1971.bx _ _)
                refine sX4_tellOne (p1 := x27_1973) hM_1971  ?_
                intro M28_1974 hM28_1974
                refine ⟨(by first | assumption | exact (by omega)), ?_⟩
                exact hQ _ _ hM28_1974
            · exact hQ _ _ hI
      · exact hQ _ _ hI
theorem sX11_ends_L33 {p1 : Int} {X72 : Int → Mem → Prop} {Q : Int → Mem → Prop} (hQ : ∀ z : Int, ∀ M' : Mem, IX M' → Q z M') (hX72 : ∀ w1 : Int, ∀ M' : Mem, IX M' → (0 ≤ w1 ∧ w1 ≤ 200 ∧ 0 ≤ p1 ∧ p1 ≤ 7) → X72 w1 M') : ∀ (n : Nat) (v2 : Int) (M : Mem), IX M → (0 ≤ v2 ∧ v2 ≤ 200 ∧ 0 ≤ p1 ∧ p1 ≤ 7) → 200 - v2 < (n : Int) → qX11_ends_L33 p1 X72 Q n v2 M := by
  intro n
  induction n with
  | zero => intro v2 M hI hv hm; exact absurd hm (by omega)
  | succ n ih =>
    intro v2 M hI hv hm
    rw [qX11_ends_L33]
    refine ⟨(by first | assumption | exact (by omega)), ?_⟩
    refine ⟨fun c => ?_, fun c => ?_⟩
    · exact hX72 _ _ hI (by omega)
    · refine sX6_hasEnded (p1 := p1) hI (show isS 8 by decide) (by omega) ?_
      intro x7_1979 q1980 q1981
      refine ⟨fun c => ?_, fun c => ?_⟩
      · exact hX72 _ _ hI (by omega)
      · refine ⟨(hI).l16, ?_⟩
        refine sX10_advance  hI (show isS 8 by decide) (hI).l16 ?_
        intro M10_1984 hM10_1984
        exact ih _ _ hM10_1984 (by omega) (by omega)
theorem sX11_ends {p1 : Int} {M : Mem} {Q : Int → Mem → Prop} (hI : IX M) (hQ : ∀ z : Int, ∀ M' : Mem, IX M' → Q z M') : qX11_ends p1 M Q := by
  unfold qX11_ends
  refine sX6_isMourner (p1 := p1) hI (show isS 1 by decide) ?_
  intro x1_1985 p1986 q1987 q1988
  refine ⟨fun c => ?_, fun c => ?_⟩
  · refine sX6_copyFrom  hI (show isS 8 by decide) (show isS 1 by decide) ?_
    intro M3_1990 hM3_1990 gM3_1990
    refine sX10_forgetTallies  hM3_1990  ?_
    intro M4_1991 hM4_1991
    refine ⟨201, ?_⟩
    refine sX11_ends_L33 ?_ ?_ _ _ _ hM4_1991 (by omega) (by omega)
    · exact hQ
    · intro v2_1992 M_1993 hM_1993 p1994
      unfold qX11_ends_J72
      refine sX6_hasEnded (p1 := p1) hM_1993 (show isS 8 by decide) (by omega) ?_
      intro x12_1995 q1996 q1997
      refine ⟨fun c => ?_, fun c => ?_⟩
      · refine ⟨(by first | assumption | exact (by omega)), ?_⟩
        refine ⟨by omega, ?_⟩
        refine ⟨by omega, ?_⟩
        intro x17_1999 ex17_1999 rx17_1999
        have bx17_1999 : -2147483648 ≤ x17_1999 ∧ x17_1999 ≤ 2147483647 := rx17_1999
        refine sX4_tellTwo (p1 := v2_1992) (p3 := x17_1999) hM_1993  ?_
        intro M18_2000 hM18_2000
        intro x19_2001 ex19_2001 rx19_2001
        have bx19_2001 : -2147483648 ≤ x19_2001 ∧ x19_2001 ≤ 2147483647 := rx19_2001
        exact hQ _ _ hM18_2000
      · exact hQ _ _ hM_1993
  · exact hQ _ _ hI
theorem sX2_period {k0 : Nat} {M : Mem} {Q : Int → Mem → Prop} (hI : IX M) (hk0 : isL k0) (hQ : ∀ z : Int, (0 ≤ z ∧ z ≤ 200) → Q z M) : qX2_period k0 M Q := by
  unfold qX2_period
  have ek0 : k0 = 187 ∨ k0 = 192 := hk0
  refine sX2_uses (p1 := 4) hI hk0 ?_
  intro x1_2004 q2005 q2006
  refine ⟨fun c => ?_, fun c => ?_⟩
  · unfold qX2_period_J14
    refine sX2_uses (p1 := 3) hI hk0 ?_
    intro x3_2008 q2009 q2010
    refine ⟨fun c => ?_, fun c => ?_⟩
    · refine ⟨(by first | assumption | exact (by omega)), ?_⟩
      exact hQ _ (by omega)
    · intro x6_2013 ex6_2013 rx6_2013
      have bx6_2013 : 0 ≤ x6_2013 ∧ x6_2013 ≤ 20 := by rw [ex6_2013]; exact (bx_c158_3).mp (hI.bx _ _)
      refine ⟨(by first | assumption | exact (by omega)), ?_⟩
      exact hQ _ (by omega)
  · unfold qX2_period_J14
    refine sX2_uses (p1 := 3) hI hk0 ?_
    intro x3_2015 q2016 q2017
    refine ⟨fun c => ?_, fun c => ?_⟩
    · refine ⟨(by first | assumption | exact (by omega)), ?_⟩
      exact hQ _ (by omega)
    · intro x6_2020 ex6_2020 rx6_2020
      have bx6_2020 : 0 ≤ x6_2020 ∧ x6_2020 ≤ 20 := by rw [ex6_2020]; exact (bx_c158_3).mp (hI.bx _ _)
      refine ⟨(by first | assumption | exact (by omega)), ?_⟩
      exact hQ _ (by omega)
theorem sX10_toEnd_L15 {k1 : Nat} {k2 : Nat}  {Q : Mem → Prop} (hk1 : isS k1) (hk2 : isL k2) (hQ : ∀ M' : Mem, IX M' → Q M') : ∀ (n : Nat) (v3 v4 v5 : Int) (M : Mem), IX M → (0 ≤ v3 ∧ v3 ≤ 200 ∧ 0 ≤ v4 ∧ v4 ≤ v5 ∧ 0 ≤ v5 ∧ v5 ≤ 200) → 200 - v5 < (n : Int) → qX10_toEnd_L15 k1 k2 Q n v3 v4 v5 M := by
  intro n
  induction n with
  | zero => intro v3 v4 v5 M hI hv hm; exact absurd hm (by omega)
  | succ n ih =>
    intro v3 v4 v5 M hI hv hm
    rw [qX10_toEnd_L15]
    have ek1 : 0 < k1 ∧ k1 < 155 ∧ (k1 - 1) % 7 = 0 := hk1
    have ek2 : k2 = 187 ∨ k2 = 192 := hk2
    refine ⟨(by first | assumption | exact (by omega)), ?_⟩
    refine ⟨fun c => ?_, fun c => ?_⟩
    · exact hQ _ hI
    · refine ⟨(by first | assumption | exact (by omega)), ?_⟩
      refine ⟨(by first | assumption | exact (by omega)), ?_⟩
      refine ⟨fun c => ?_, fun c => ?_⟩
      · exact hQ _ hI
      · intro x7_2025 ex7_2025 rx7_2025
        have bx7_2025 : -2147483648 ≤ x7_2025 ∧ x7_2025 ≤ 2147483647 := rx7_2025
        intro x8_2026 ex8_2026 rx8_2026
        have bx8_2026 : 0 ≤ x8_2026 ∧ x8_2026 ≤ 8 := by rw [ex8_2026]; exact (bx_s0_7 hk1).mp (hI.bx _ _)
        refine ⟨fun c => ?_, fun c => ?_⟩
        · exact hQ _ hI
        · intro x10_2029 ex10_2029 rx10_2029
          have bx10_2029 : -2147483648 ≤ x10_2029 ∧ x10_2029 ≤ 2147483647 := rx10_2029
          intro x11_2030 ex11_2030 rx11_2030
          have bx11_2030 : 0 ≤ x11_2030 ∧ x11_2030 ≤ 6 := by rw [ex11_2030]; exact (bx_s0_6 hk1).mp (hI.bx _ _)
          refine ⟨fun c => ?_, fun c => ?_⟩
          · refine sX10_advance  hI hk1 hk2 ?_
            intro M13_2032 hM13_2032
            intro x14_2033 ex14_2033 rx14_2033
            have bx14_2033 : -2147483648 ≤ x14_2033 ∧ x14_2033 ≤ 2147483647 := rx14_2033
            refine ⟨fun c => ?_, fun c => ?_⟩
            · exact ih _ _ _ _ hM13_2032 (by omega) (by omega)
            · exact ih _ _ _ _ hM13_2032 (by omega) (by omega)
          · exact hQ _ hI
theorem sX10_toEnd {k1 : Nat} {k2 : Nat} {M : Mem} {Q : Mem → Prop} (hI : IX M) (hk1 : isS k1) (hk2 : isL k2) (hQ : ∀ M' : Mem, IX M' → Q M') : qX10_toEnd k1 k2 M Q := by
  unfold qX10_toEnd
  have ek1 : 0 < k1 ∧ k1 < 155 ∧ (k1 - 1) % 7 = 0 := hk1
  have ek2 : k2 = 187 ∨ k2 = 192 := hk2
  refine sX2_period  hI hk2 ?_
  intro x1_2037 p2038 q2039
  refine ⟨201, ?_⟩
  refine sX10_toEnd_L15 hk1 hk2 ?_ _ _ _ _ _ hI (by omega) (by omega)
  · exact hQ
theorem sX6_isRight {k0 : Nat} {p1 : Int} {M : Mem} {Q : Int → Mem → Prop} (hI : IX M) (hk0 : isS k0) (hp : 0 ≤ p1 ∧ p1 ≤ 7) (hQ : ∀ z : Int, Q z M) : qX6_isRight k0 p1 M Q := by
  unfold qX6_isRight
  have ek0 : 0 < k0 ∧ k0 < 155 ∧ (k0 - 1) % 7 = 0 := hk0
  refine ⟨by omega, ?_⟩
  refine ⟨by omega, ?_⟩
  intro x3_2040 ex3_2040 rx3_2040
  have bx3_2040 : -2147483648 ≤ x3_2040 ∧ x3_2040 ≤ 2147483647 := rx3_2040
  intro x4_2041 ex4_2041 rx4_2041
  have bx4_2041 : 0 ≤ x4_2041 ∧ x4_2041 ≤ 5 := by rw [ex4_2041]; exact (bx_s4 hk0).mp (hI.bx _ _)
  refine ⟨fun c => ?_, fun c => ?_⟩
  · exact hQ _
  · exact hQ _
theorem sX6_rightBits_L4 {k0 : Nat}  {Q : Int → Mem → Prop} {M0 : Mem} (hk0 : isS k0) (hQ : ∀ z : Int, Q z M0) : ∀ (n : Nat) (v1 v2 : Int), IX M0 → (0 ≤ v2 ∧ v2 ≤ 8) → iR v1 → 8 - v2 < (n : Int) → qX6_rightBits_L4 k0 Q n v1 v2 M0 := by
  intro n
  induction n with
  | zero => intro v1 v2 hI hv hrv1 hm; exact absurd hm (by omega)
  | succ n ih =>
    intro v1 v2 hI hv hrv1 hm
    rw [qX6_rightBits_L4]
    have ek0 : 0 < k0 ∧ k0 < 155 ∧ (k0 - 1) % 7 = 0 := hk0
    intro x1_2044 ex1_2044 rx1_2044
    have bx1_2044 : 0 ≤ x1_2044 ∧ x1_2044 ≤ 8 := by rw [ex1_2044]; exact (bx_s0_7 hk0).mp (hI.bx _ _)
    refine ⟨(by first | assumption | exact (by omega)), ?_⟩
    refine ⟨fun c => ?_, fun c => ?_⟩
    · refine ⟨(by first | assumption | exact (by omega)), ?_⟩
      exact hQ _
    · refine sX6_isRight (p1 := v2) hI hk0 (by omega) ?_
      intro x5_2047 q2048 q2049
      refine ⟨fun c => ?_, fun c => ?_⟩
      · intro x7_2051 ex7_2051 rx7_2051
        first | (have fx7_2051 := oI_64 (a := v1) (b := 0) (by omega) (by omega); rw [← ex7_2051] at fx7_2051) | skip
        exact ih _ _ hI (by omega) (by first | assumption | exact (by omega)) (by omega)
      · intro x8_2053 ex8_2053 rx8_2053
        first | (have fx8_2053 := slI_1 (b := v2) (by omega); rw [← ex8_2053] at fx8_2053) | skip
        intro x9_2054 ex9_2054 rx9_2054
        first | (have fx9_2054 := oI_64 (a := v1) (b := x8_2053) (by omega) (by omega); rw [← ex9_2054] at fx9_2054) | skip
        exact ih _ _ hI (by omega) (by first | assumption | exact (by omega)) (by omega)
theorem sX6_rightBits {k0 : Nat} {M : Mem} {Q : Int → Mem → Prop} (hI : IX M) (hk0 : isS k0) (hQ : ∀ z : Int, Q z M) : qX6_rightBits k0 M Q := by
  unfold qX6_rightBits
  have ek0 : 0 < k0 ∧ k0 < 155 ∧ (k0 - 1) % 7 = 0 := hk0
  refine ⟨9, ?_⟩
  refine sX6_rightBits_L4 hk0 ?_ _ _ _ hI (by omega) (by first | assumption | exact (by omega)) (by omega)
  · exact hQ
theorem sX11_rightOnesOfTrial {k1 : Nat} {M : Mem} {Q : Int → Mem → Prop} (hI : IX M) (hk1 : isL k1) (hQ : ∀ z : Int, ∀ M' : Mem, IX M' → Q z M') : qX11_rightOnesOfTrial k1 M Q := by
  unfold qX11_rightOnesOfTrial
  have ek1 : k1 = 187 ∨ k1 = 192 := hk1
  refine sX10_toEnd  hI (show isS 8 by decide) hk1 ?_
  intro M1_2055 hM1_2055
  refine sX6_rightBits  hM1_2055 (show isS 8 by decide) ?_
  intro x2_2056 q2057
  exact hQ _ _ hM1_2055
theorem sX6_wrongBits_L4 {k0 : Nat}  {Q : Int → Mem → Prop} {M0 : Mem} (hk0 : isS k0) (hQ : ∀ z : Int, Q z M0) : ∀ (n : Nat) (v1 v2 : Int), IX M0 → (0 ≤ v2 ∧ v2 ≤ 8) → iR v1 → 8 - v2 < (n : Int) → qX6_wrongBits_L4 k0 Q n v1 v2 M0 := by
  intro n
  induction n with
  | zero => intro v1 v2 hI hv hrv1 hm; exact absurd hm (by omega)
  | succ n ih =>
    intro v1 v2 hI hv hrv1 hm
    rw [qX6_wrongBits_L4]
    have ek0 : 0 < k0 ∧ k0 < 155 ∧ (k0 - 1) % 7 = 0 := hk0
    intro x1_2058 ex1_2058 rx1_2058
    have bx1_2058 : 0 ≤ x1_2058 ∧ x1_2058 ≤ 8 := by rw [ex1_2058]; exact (bx_s0_7 hk0).mp (hI.bx _ _)
    refine ⟨(by first | assumption | exact (by omega)), ?_⟩
    refine ⟨fun c => ?_, fun c => ?_⟩
    · refine ⟨(by first | assumption | exact (by omega)), ?_⟩
      exact hQ _
    · refine sX6_hasEnded (p1 := v2) hI hk0 (by omega) ?_
      intro x5_2061 q2062 q2063
      refine ⟨fun c => ?_, fun c => ?_⟩
      · intro x7_2065 ex7_2065 rx7_2065
        first | (have fx7_2065 := oI_64 (a := v1) (b := 0) (by omega) (by omega); rw [← ex7_2065] at fx7_2065) | skip
        exact ih _ _ hI (by omega) (by first | assumption | exact (by omega)) (by omega)
      · refine sX6_isRight (p1 := v2) hI hk0 (by omega) ?_
        intro x8_2067 q2068 q2069
        refine ⟨fun c => ?_, fun c => ?_⟩
        · intro x10_2071 ex10_2071 rx10_2071
          first | (have fx10_2071 := oI_64 (a := v1) (b := 0) (by omega) (by omega); rw [← ex10_2071] at fx10_2071) | skip
          exact ih _ _ hI (by omega) (by first | assumption | exact (by omega)) (by omega)
        · intro x11_2073 ex11_2073 rx11_2073
          first | (have fx11_2073 := slI_1 (b := v2) (by omega); rw [← ex11_2073] at fx11_2073) | skip
          intro x12_2074 ex12_2074 rx12_2074
          first | (have fx12_2074 := oI_64 (a := v1) (b := x11_2073) (by omega) (by omega); rw [← ex12_2074] at fx12_2074) | skip
          exact ih _ _ hI (by omega) (by first | assumption | exact (by omega)) (by omega)
theorem sX6_wrongBits {k0 : Nat} {M : Mem} {Q : Int → Mem → Prop} (hI : IX M) (hk0 : isS k0) (hQ : ∀ z : Int, Q z M) : qX6_wrongBits k0 M Q := by
  unfold qX6_wrongBits
  have ek0 : 0 < k0 ∧ k0 < 155 ∧ (k0 - 1) % 7 = 0 := hk0
  refine ⟨9, ?_⟩
  refine sX6_wrongBits_L4 hk0 ?_ _ _ _ hI (by omega) (by first | assumption | exact (by omega)) (by omega)
  · exact hQ
theorem sX11_right  {M : Mem} {Q : Int → Mem → Prop} (hI : IX M) (hQ : ∀ z : Int, ∀ M' : Mem, IX M' → Q z M') : qX11_right M Q := by
  unfold qX11_right
  refine sX6_copyFrom  hI (show isS 8 by decide) (show isS 1 by decide) ?_
  intro M1_2075 hM1_2075 gM1_2075
  refine ⟨(hM1_2075).l16, ?_⟩
  refine sX11_rightOnesOfTrial  hM1_2075 (hM1_2075).l16 ?_
  intro x3_2076 M3_2077 hM3_2077 q2078
  refine sX6_wrongBits  hM3_2077 (show isS 8 by decide) ?_
  intro x4_2079 q2080
  refine sX4_tellTwo (p1 := x3_2076) (p3 := x4_2079) hM3_2077  ?_
  intro M5_2081 hM5_2081
  refine sJ6_bitCount_0f7a4 (p0 := x3_2076) hM5_2081  ?_
  intro x6_2082 p2083 q2084
  exact hQ _ _ hM5_2081
theorem sX3_begin_L7 {k1 : Nat}  {Q : Mem → Prop} (hk1 : isS k1) (hQ : ∀ M' : Mem, IX M' → Q M') : ∀ (n : Nat) (v3 : Int) (M : Mem), IX M → (0 ≤ v3 ∧ v3 ≤ 30) → 30 - v3 < (n : Int) → qX3_begin_L7 k1 Q n v3 M := by
  intro n
  induction n with
  | zero => intro v3 M hI hv hm; exact absurd hm (by omega)
  | succ n ih =>
    intro v3 M hI hv hm
    rw [qX3_begin_L7]
    have ek1 : 0 < k1 ∧ k1 < 155 ∧ (k1 - 1) % 7 = 0 := hk1
    intro x2_2085 ex2_2085 rx2_2085
    have bx2_2085 : 4 ≤ x2_2085 ∧ x2_2085 ≤ 30 := by rw [ex2_2085]; exact (bx_c158_1).mp (hI.bx _ _)
    refine ⟨(by first | assumption | exact (by omega)), ?_⟩
    refine ⟨fun c => ?_, fun c => ?_⟩
    · exact hQ _ hI
    · intro x5_2088 ex5_2088 rx5_2088
      have bx5_2088 : 0 ≤ x5_2088 ∧ x5_2088 ≤ 6 := by rw [ex5_2088]; exact (bx_c179_2).mp (hI.bx _ _)
      refine ⟨fun c => ?_, fun c => ?_⟩
      · exact hQ _ hI
      · refine sX6_hearseOn (p1 := v3) hI hk1 ?_
        intro x7_2091 p2092 q2093
        refine ⟨fun c => ?_, fun c => ?_⟩
        · exact ih _ _ hI (by omega) (by omega)
        · intro x9_2096 ex9_2096 rx9_2096
          have bx9_2096 : 0 ≤ x9_2096 ∧ x9_2096 ≤ 6 := by rw [ex9_2096]; exact (bx_c179_2).mp (hI.bx _ _)
          refine ⟨by omega, ?_⟩
          refine ⟨by omega, ?_⟩
          intro M12_2097 h_M12_2097
          have hM12_2097 : IX M12_2097 := by rw [h_M12_2097]; exact hI.up (by decide) ((bx_c180).mpr (by omega))
          intro x13_2098 ex13_2098 rx13_2098
          have bx13_2098 : 0 ≤ x13_2098 ∧ x13_2098 ≤ 6 := by rw [ex13_2098]; exact (bx_c179_2).mp (hM12_2097.bx _ _)
          have fx13_2098 : x13_2098 = M 179 2 := by rw [ex13_2098, h_M12_2097, up2_n (by decide)]
          refine ⟨(by first | assumption | exact (by omega)), ?_⟩
          intro M15_2099 h_M15_2099
          have hM15_2099 : IX M15_2099 := by rw [h_M15_2099]; exact hM12_2097.up (by decide) ((bx_c179_2).mpr (by omega))
          exact ih _ _ hM15_2099 (by omega) (by omega)
theorem sX3_begin {k1 : Nat} {M : Mem} {Q : Mem → Prop} (hI : IX M) (hk1 : isS k1) (hQ : ∀ M' : Mem, IX M' → Q M') : qX3_begin k1 M Q := by
  unfold qX3_begin
  have ek1 : 0 < k1 ∧ k1 < 155 ∧ (k1 - 1) % 7 = 0 := hk1
  intro M1_2100 h_M1_2100
  have hM1_2100 : IX M1_2100 := by rw [h_M1_2100]; exact hI.up (by decide) ((bx_c179_2).mpr (by omega))
  refine ⟨31, ?_⟩
  refine sX3_begin_L7 hk1 ?_ _ _ _ hM1_2100 (by omega) (by omega)
  · exact hQ
theorem sX3_markBest  {M : Mem} {Q : Mem → Prop} (hI : IX M) (hQ : ∀ M' : Mem, IX M' → Q M') : qX3_markBest M Q := by
  unfold qX3_markBest
  intro M1_2101 h_M1_2101
  have hM1_2101 : IX M1_2101 := by rw [h_M1_2101]; exact hI.cp180_181
  exact hQ _ hM1_2101
theorem sX3_exchangeCells {p1 : Int} {p2 : Int} {M : Mem} {Q : Mem → Prop} (hI : IX M) (hp : 0 ≤ p1 ∧ p1 ≤ 5 ∧ 0 ≤ p2 ∧ p2 ≤ 5) (hQ : ∀ M' : Mem, IX M' → Q M') : qX3_exchangeCells p1 p2 M Q := by
  unfold qX3_exchangeCells
  refine ⟨by omega, ?_⟩
  refine ⟨by omega, ?_⟩
  intro x3_2102 ex3_2102 rx3_2102
  have bx3_2102 : 0 ≤ x3_2102 ∧ x3_2102 ≤ 29 := by rw [ex3_2102]; exact (bx_c180).mp (hI.bx _ _)
  refine ⟨by omega, ?_⟩
  refine ⟨by omega, ?_⟩
  intro x6_2103 ex6_2103 rx6_2103
  have bx6_2103 : 0 ≤ x6_2103 ∧ x6_2103 ≤ 29 := by rw [ex6_2103]; exact (bx_c180).mp (hI.bx _ _)
  intro M7_2104 h_M7_2104
  have hM7_2104 : IX M7_2104 := by rw [h_M7_2104]; exact hI.up (by decide) ((bx_c180).mpr (by omega))
  intro M8_2105 h_M8_2105
  have hM8_2105 : IX M8_2105 := by rw [h_M8_2105]; exact hM7_2104.up (by decide) ((bx_c180).mpr (by omega))
  exact hQ _ hM8_2105
theorem sX3_toNext_L7  {X34 : Int → Mem → Prop} {Q : Int → Mem → Prop} (hQ : ∀ z : Int, ∀ M' : Mem, IX M' → Q z M') (hX34 : ∀ w1 : Int, ∀ M' : Mem, IX M' → (-2 ≤ w1 ∧ w1 ≤ 4 ∧ w1 + 2 ≤ M' 179 2) → X34 w1 M') : ∀ (n : Nat) (v1 : Int) (M : Mem), IX M → (-2 ≤ v1 ∧ v1 ≤ 4 ∧ v1 + 2 ≤ M 179 2) → v1 + 2 < (n : Int) → qX3_toNext_L7 X34 Q n v1 M := by
  intro n
  induction n with
  | zero => intro v1 M hI hv hm; exact absurd hm (by omega)
  | succ n ih =>
    intro v1 M hI hv hm
    rw [qX3_toNext_L7]
    refine ⟨(by first | assumption | exact (by omega)), ?_⟩
    refine ⟨fun c => ?_, fun c => ?_⟩
    · exact hX34 _ _ hI (by omega)
    · refine ⟨by omega, ?_⟩
      refine ⟨by omega, ?_⟩
      intro x6_2108 ex6_2108 rx6_2108
      have bx6_2108 : 0 ≤ x6_2108 ∧ x6_2108 ≤ 29 := by rw [ex6_2108]; exact (bx_c180).mp (hI.bx _ _)
      refine ⟨by omega, ?_⟩
      refine ⟨by omega, ?_⟩
      intro x9_2109 ex9_2109 rx9_2109
      have bx9_2109 : 0 ≤ x9_2109 ∧ x9_2109 ≤ 29 := by rw [ex9_2109]; exact (bx_c180).mp (hI.bx _ _)
      refine ⟨fun c => ?_, fun c => ?_⟩
      · exact hX34 _ _ hI (by omega)
      · exact ih _ _ hI (by omega) (by omega)
theorem sX3_toNext_L47  {X73 : Int → Int → Mem → Prop} {Q : Int → Mem → Prop} (hQ : ∀ z : Int, ∀ M' : Mem, IX M' → Q z M') (hX73 : ∀ w1 w2 : Int, ∀ M' : Mem, IX M' → (0 ≤ w1 ∧ w1 ≤ 4 ∧ w1 ≤ w2 ∧ w2 ≤ 5) → X73 w1 w2 M') : ∀ (n : Nat) (v1 v2 : Int) (M : Mem), IX M → (0 ≤ v1 ∧ v1 ≤ 4 ∧ v1 ≤ v2 ∧ v2 ≤ 5) → v2 < (n : Int) → qX3_toNext_L47 X73 Q n v1 v2 M := by
  intro n
  induction n with
  | zero => intro v1 v2 M hI hv hm; exact absurd hm (by omega)
  | succ n ih =>
    intro v1 v2 M hI hv hm
    rw [qX3_toNext_L47]
    refine ⟨(by first | assumption | exact (by omega)), ?_⟩
    refine ⟨(by first | assumption | exact (by omega)), ?_⟩
    refine ⟨fun c => ?_, fun c => ?_⟩
    · exact hX73 _ _ _ hI (by omega)
    · refine ⟨by omega, ?_⟩
      refine ⟨by omega, ?_⟩
      intro x20_2114 ex20_2114 rx20_2114
      have bx20_2114 : 0 ≤ x20_2114 ∧ x20_2114 ≤ 29 := by rw [ex20_2114]; exact (bx_c180).mp (hI.bx _ _)
      refine ⟨by omega, ?_⟩
      refine ⟨by omega, ?_⟩
      intro x23_2115 ex23_2115 rx23_2115
      have bx23_2115 : 0 ≤ x23_2115 ∧ x23_2115 ≤ 29 := by rw [ex23_2115]; exact (bx_c180).mp (hI.bx _ _)
      refine ⟨fun c => ?_, fun c => ?_⟩
      · exact hX73 _ _ _ hI (by omega)
      · exact ih _ _ _ hI (by omega) (by omega)
theorem sX3_toNext_L91   {Q : Int → Mem → Prop} (hQ : ∀ z : Int, ∀ M' : Mem, IX M' → Q z M') : ∀ (n : Nat) (v3 v4 : Int) (M : Mem), IX M → (0 ≤ v3 ∧ v3 ≤ 6 ∧ -1 ≤ v4 ∧ v4 ≤ 5) → 6 - v3 < (n : Int) → qX3_toNext_L91 Q n v3 v4 M := by
  intro n
  induction n with
  | zero => intro v3 v4 M hI hv hm; exact absurd hm (by omega)
  | succ n ih =>
    intro v3 v4 M hI hv hm
    rw [qX3_toNext_L91]
    refine ⟨(by first | assumption | exact (by omega)), ?_⟩
    refine ⟨(by first | assumption | exact (by omega)), ?_⟩
    refine ⟨fun c => ?_, fun c => ?_⟩
    · exact hQ _ _ hI
    · refine sX3_exchangeCells (p1 := v3) (p2 := v4) hI (by omega) ?_
      intro M33_2120 hM33_2120
      exact ih _ _ _ hM33_2120 (by omega) (by omega)
theorem sX3_toNext  {M : Mem} {Q : Int → Mem → Prop} (hI : IX M) (hQ : ∀ z : Int, ∀ M' : Mem, IX M' → Q z M') : qX3_toNext M Q := by
  unfold qX3_toNext
  intro x1_2121 ex1_2121 rx1_2121
  have bx1_2121 : 0 ≤ x1_2121 ∧ x1_2121 ≤ 6 := by rw [ex1_2121]; exact (bx_c179_2).mp (hI.bx _ _)
  refine ⟨7, ?_⟩
  refine sX3_toNext_L7 ?_ ?_ _ _ _ hI (by omega) (by omega)
  · exact hQ
  · intro v1_2122 M_2123 hM_2123 p2124
    unfold qX3_toNext_J34
    refine ⟨(by first | assumption | exact (by omega)), ?_⟩
    refine ⟨fun c => ?_, fun c => ?_⟩
    · intro x14_2126 ex14_2126 rx14_2126
      have bx14_2126 : 0 ≤ x14_2126 ∧ x14_2126 ≤ 6 := by rw [ex14_2126]; exact (bx_c179_2).mp (hM_2123.bx _ _)
      refine ⟨6, ?_⟩
      refine sX3_toNext_L47 ?_ ?_ _ _ _ _ hM_2123 (by omega) (by omega)
      · exact hQ
      · intro v1_2127 v2_2128 M_2129 hM_2129 p2130
        unfold qX3_toNext_J73
        refine ⟨(by first | assumption | exact (by omega)), ?_⟩
        refine ⟨(by first | assumption | exact (by omega)), ?_⟩
        refine sX3_exchangeCells (p1 := v1_2127) (p2 := v2_2128) hM_2129 (by omega) ?_
        intro M28_2131 hM28_2131
        intro x29_2132 ex29_2132 rx29_2132
        have bx29_2132 : 0 ≤ x29_2132 ∧ x29_2132 ≤ 6 := by rw [ex29_2132]; exact (bx_c179_2).mp (hM28_2131.bx _ _)
        refine ⟨7, ?_⟩
        refine sX3_toNext_L91 ?_ _ _ _ _ hM28_2131 (by omega) (by omega)
        · exact hQ
    · exact hQ _ _ hM_2123
theorem sX6_placeHearses_L4 {k0 : Nat}  {Q : Mem → Prop} (hk0 : isS k0) (hQ : ∀ M' : Mem, IX M' → Q M') : ∀ (n : Nat) (v2 v3 : Int) (M : Mem), IX M → (0 ≤ v2 ∧ v2 ≤ v3 ∧ v3 ≤ 6) → 6 - v3 < (n : Int) → qX6_placeHearses_L4 k0 180 Q n v2 v3 M := by
  intro n
  induction n with
  | zero => intro v2 v3 M hI hv hm; exact absurd hm (by omega)
  | succ n ih =>
    intro v2 v3 M hI hv hm
    rw [qX6_placeHearses_L4]
    have ek0 : 0 < k0 ∧ k0 < 155 ∧ (k0 - 1) % 7 = 0 := hk0
    intro x1_2134 ex1_2134 rx1_2134
    have bx1_2134 : 0 ≤ x1_2134 ∧ x1_2134 ≤ 6 := by rw [ex1_2134]; exact (bx_s0_6 hk0).mp (hI.bx _ _)
    refine ⟨(by first | assumption | exact (by omega)), ?_⟩
    refine ⟨fun c => ?_, fun c => ?_⟩
    · exact hQ _ hI
    · refine sX6_hasArrived (p1 := v3) hI hk0 (by omega) ?_
      intro x4_2137 q2138 q2139
      refine ⟨fun c => ?_, fun c => ?_⟩
      · exact ih _ _ _ hI (by omega) (by omega)
      · refine ⟨by omega, ?_⟩
        refine ⟨by omega, ?_⟩
        intro x8_2142 ex8_2142 rx8_2142
        have bx8_2142 : 0 ≤ x8_2142 ∧ x8_2142 ≤ 29 := by rw [ex8_2142]; exact (bx_c180).mp (hI.bx _ _)
        refine ⟨by omega, ?_⟩
        refine ⟨by omega, ?_⟩
        intro M11_2143 h_M11_2143
        have hM11_2143 : IX M11_2143 := by rw [h_M11_2143]; exact hI.up (isS.nsp hk0 1 (by decide)) ((bx_s1 hk0).mpr (by omega))
        exact ih _ _ _ hM11_2143 (by omega) (by omega)
theorem sX6_placeHearses {k0 : Nat} {M : Mem} {Q : Mem → Prop} (hI : IX M) (hk0 : isS k0) (hQ : ∀ M' : Mem, IX M' → Q M') : qX6_placeHearses k0 180 M Q := by
  unfold qX6_placeHearses
  have ek0 : 0 < k0 ∧ k0 < 155 ∧ (k0 - 1) % 7 = 0 := hk0
  refine ⟨7, ?_⟩
  refine sX6_placeHearses_L4 hk0 ?_ _ _ _ _ hI (by omega) (by omega)
  · exact hQ
theorem sX11_order_L21  {X111 : Int → Mem → Prop} {Q : Int → Mem → Prop} (hQ : ∀ z : Int, ∀ M' : Mem, IX M' → Q z M') (hX111 : ∀ w1 : Int, ∀ M' : Mem, IX M' → (-1 ≤ w1 ∧ w1 ≤ 63) → X111 w1 M') : ∀ (n : Nat) (v1 v2 v3 : Int) (M : Mem), IX M → (-1 ≤ v1 ∧ v1 ≤ 63 ∧ 0 ≤ v2 ∧ v2 ≤ 1 ∧ 0 ≤ v3 ∧ v3 ≤ 720) → 720 - v3 < (n : Int) → qX11_order_L21 X111 Q n v1 v2 v3 M := by
  intro n
  induction n with
  | zero => intro v1 v2 v3 M hI hv hm; exact absurd hm (by omega)
  | succ n ih =>
    intro v1 v2 v3 M hI hv hm
    rw [qX11_order_L21]
    refine ⟨(by first | assumption | exact (by omega)), ?_⟩
    refine ⟨fun c => ?_, fun c => ?_⟩
    · exact hX111 _ _ hI (by omega)
    · refine ⟨(by first | assumption | exact (by omega)), ?_⟩
      refine ⟨fun c => ?_, fun c => ?_⟩
      · exact hX111 _ _ hI (by omega)
      · intro x6_2148 ex6_2148 rx6_2148
        have bx6_2148 : 0 ≤ x6_2148 ∧ x6_2148 ≤ 8 := by rw [ex6_2148]; exact (bx_s0_7 (show isS 1 by decide)).mp (hI.bx _ _)
        refine ⟨(by first | assumption | exact (by omega)), ?_⟩
        refine ⟨fun c => ?_, fun c => ?_⟩
        · exact hX111 _ _ hI (by omega)
        · refine sX6_copyFrom  hI (show isS 8 by decide) (show isS 1 by decide) ?_
          intro M9_2151 hM9_2151 gM9_2151
          refine sX6_placeHearses  hM9_2151 (show isS 8 by decide) ?_
          intro M10_2152 hM10_2152
          refine ⟨(hM10_2152).l16, ?_⟩
          refine sX11_rightOnesOfTrial  hM10_2152 (hM10_2152).l16 ?_
          intro x12_2153 M12_2154 hM12_2154 q2155
          refine sJ6_bitCount_0f7a4 (p0 := x12_2153) hM12_2154  ?_
          intro x13_2156 p2157 q2158
          refine ⟨fun c => ?_, fun c => ?_⟩
          · unfold qX11_order_J97
            refine sX3_toNext  hM12_2154  ?_
            intro x15_2160 M15_2161 hM15_2161 q2162 q2163
            exact ih _ _ _ _ hM15_2161 (by omega) (by omega)
          · refine sX3_markBest  hM12_2154  ?_
            intro M16_2165 hM16_2165
            unfold qX11_order_J97
            refine sX3_toNext  hM16_2165  ?_
            intro x15_2166 M15_2167 hM15_2167 q2168 q2169
            exact ih _ _ _ _ hM15_2167 (by omega) (by omega)
theorem sX11_order_L120   {Q : Int → Mem → Prop} (hQ : ∀ z : Int, ∀ M' : Mem, IX M' → Q z M') : ∀ (n : Nat) (v1 v3 : Int) (M : Mem), IX M → (-1 ≤ v1 ∧ v1 ≤ 63 ∧ 0 ≤ v3 ∧ v3 ≤ 6) → 6 - v3 < (n : Int) → qX11_order_L120 Q n v1 v3 M := by
  intro n
  induction n with
  | zero => intro v1 v3 M hI hv hm; exact absurd hm (by omega)
  | succ n ih =>
    intro v1 v3 M hI hv hm
    rw [qX11_order_L120]
    intro x19_2170 ex19_2170 rx19_2170
    have bx19_2170 : 0 ≤ x19_2170 ∧ x19_2170 ≤ 6 := by rw [ex19_2170]; exact (bx_c179_2).mp (hI.bx _ _)
    refine ⟨(by first | assumption | exact (by omega)), ?_⟩
    refine ⟨fun c => ?_, fun c => ?_⟩
    · refine ⟨(by first | assumption | exact (by omega)), ?_⟩
      exact hQ _ _ hI
    · refine ⟨by omega, ?_⟩
      refine ⟨by omega, ?_⟩
      intro x25_2173 ex25_2173 rx25_2173
      have bx25_2173 : -2147483648 ≤ x25_2173 ∧ x25_2173 ≤ 2147483647 := rx25_2173
      refine sX4_add (p1 := x25_2173) hI  ?_
      intro M26_2174 hM26_2174
      exact ih _ _ _ hM26_2174 (by omega) (by omega)
theorem sX11_order  {M : Mem} {Q : Int → Mem → Prop} (hI : IX M) (hQ : ∀ z : Int, ∀ M' : Mem, IX M' → Q z M') : qX11_order M Q := by
  unfold qX11_order
  refine sX3_begin  hI (show isS 1 by decide) ?_
  intro M1_2175 hM1_2175
  refine ⟨721, ?_⟩
  refine sX11_order_L21 ?_ ?_ _ _ _ _ _ hM1_2175 (by omega) (by omega)
  · exact hQ
  · intro v1_2176 M_2177 hM_2177 p2178
    unfold qX11_order_J111
    refine sX4_clear  hM_2177  ?_
    intro M18_2179 hM18_2179
    refine ⟨7, ?_⟩
    refine sX11_order_L120 ?_ _ _ _ _ hM18_2179 (by omega) (by omega)
    · exact hQ
theorem sX11_stands_L42 {p1 : Int} {X117 : Int → Int → Mem → Prop} {Q : Int → Mem → Prop} (hQ : ∀ z : Int, ∀ M' : Mem, IX M' → Q z M') (hX117 : ∀ w1 w2 : Int, ∀ M' : Mem, IX M' → (-1 ≤ w1 ∧ w1 ≤ 29 ∧ 0 ≤ w2 ∧ w2 ≤ 29) → X117 w1 w2 M') : ∀ (n : Nat) (v2 v3 v4 : Int) (M : Mem), IX M → (-1 ≤ v2 ∧ v2 ≤ 29 ∧ 0 ≤ v3 ∧ v3 + v4 ≤ 28 ∧ -1 ≤ v4 ∧ v4 ≤ 28 ∧ 0 ≤ p1 ∧ p1 ≤ 7) → v4 + 1 < (n : Int) → qX11_stands_L42 p1 X117 Q n v2 v3 v4 M := by
  intro n
  induction n with
  | zero => intro v2 v3 v4 M hI hv hm; exact absurd hm (by omega)
  | succ n ih =>
    intro v2 v3 v4 M hI hv hm
    rw [qX11_stands_L42]
    refine ⟨(by first | assumption | exact (by omega)), ?_⟩
    refine ⟨fun c => ?_, fun c => ?_⟩
    · exact hX117 _ _ _ hI (by omega)
    · refine sX6_copyFrom  hI (show isS 8 by decide) (show isS 1 by decide) ?_
      intro M8_2182 hM8_2182 gM8_2182
      refine ⟨by omega, ?_⟩
      refine ⟨by omega, ?_⟩
      intro M11_2183 h_M11_2183
      have hM11_2183 : IX M11_2183 := by rw [h_M11_2183]; exact hM8_2182.up (isS.nsp (show isS 8 by decide) 3 (by decide)) ((bx_s3 (show isS 8 by decide)).mpr (by omega))
      intro M12_2184 h_M12_2184
      have hM12_2184 : IX M12_2184 := by rw [h_M12_2184]; exact hM11_2183.up (isS.nsp (show isS 8 by decide) 5 (by decide)) ((bx_s5 (show isS 8 by decide)).mpr (by omega))
      refine ⟨(hM12_2184).l16, ?_⟩
      refine sX10_toEnd  hM12_2184 (show isS 8 by decide) (hM12_2184).l16 ?_
      intro M14_2185 hM14_2185
      refine sX6_isRight (p1 := p1) hM14_2185 (show isS 8 by decide) (by omega) ?_
      intro x15_2186 q2187 q2188
      refine ⟨fun c => ?_, fun c => ?_⟩
      · exact ih _ _ _ _ hM14_2185 (by omega) (by omega)
      · exact ih _ _ _ _ hM14_2185 (by omega) (by omega)
theorem sX11_stands {p1 : Int} {M : Mem} {Q : Int → Mem → Prop} (hI : IX M) (hQ : ∀ z : Int, ∀ M' : Mem, IX M' → Q z M') : qX11_stands p1 M Q := by
  unfold qX11_stands
  refine sX6_isMourner (p1 := p1) hI (show isS 1 by decide) ?_
  intro x1_2191 p2192 q2193 q2194
  refine ⟨fun c => ?_, fun c => ?_⟩
  · refine sX6_hasEnded (p1 := p1) hI (show isS 1 by decide) (by omega) ?_
    intro x3_2196 q2197 q2198
    refine ⟨fun c => ?_, fun c => ?_⟩
    · refine sX8_gate  hI  ?_
      intro x5_2200 p2201 q2202
      refine ⟨30, ?_⟩
      refine sX11_stands_L42 ?_ ?_ _ _ _ _ _ hI (by omega) (by omega)
      · exact hQ
      · intro v2_2203 v3_2204 M_2205 hM_2205 p2206
        refine ⟨(by first | assumption | exact (by omega)), ?_⟩
        refine ⟨fun c => ?_, fun c => ?_⟩
        · refine sX4_tellOne (p1 := v3_2204) hM_2205  ?_
          intro M20_2208 hM20_2208
          refine ⟨(by first | assumption | exact (by omega)), ?_⟩
          exact hQ _ _ hM20_2208
        · exact hQ _ _ hM_2205
    · exact hQ _ _ hI
  · exact hQ _ _ hI
theorem sX11_isTurned {p1 : Int} {M : Mem} {Q : Int → Mem → Prop} (hI : IX M) (hp : 0 ≤ p1 ∧ p1 ≤ 7) (hQ : ∀ z : Int, ∀ M' : Mem, IX M' → Q z M') : qX11_isTurned p1 M Q := by
  unfold qX11_isTurned
  refine sX6_hasEnded (p1 := p1) hI (show isS 8 by decide) (by omega) ?_
  intro x1_2212 q2213 q2214
  refine ⟨fun c => ?_, fun c => ?_⟩
  · unfold qX11_isTurned_J36
    unfold qX11_isTurned_J37
    refine ⟨(by first | assumption | exact (by omega)), ?_⟩
    refine ⟨fun c => ?_, fun c => ?_⟩
    · exact hQ _ _ hI
    · refine sX6_turn (p1 := p1) hI (show isS 8 by decide) ?_
      intro x5_2218 M5_2219 hM5_2219 q2220
      refine sX11_isDone (p0 := x5_2218) hM5_2219  ?_
      intro x6_2221 q2222 q2223
      refine ⟨fun c => ?_, fun c => ?_⟩
      · exact hQ _ _ hM5_2219
      · exact hQ _ _ hM5_2219
  · refine ⟨by omega, ?_⟩
    refine ⟨by omega, ?_⟩
    intro x10_2227 ex10_2227 rx10_2227
    have bx10_2227 : -1 ≤ x10_2227 ∧ x10_2227 ≤ 5 := by rw [ex10_2227]; exact (bx_s5 (show isS 8 by decide)).mp (hI.bx _ _)
    intro x11_2228 ex11_2228 rx11_2228
    have bx11_2228 : 0 ≤ x11_2228 ∧ x11_2228 ≤ 5 := by rw [ex11_2228]; exact (bx_s4 (show isS 8 by decide)).mp (hI.bx _ _)
    refine ⟨fun c => ?_, fun c => ?_⟩
    · unfold qX11_isTurned_J36
      unfold qX11_isTurned_J37
      refine ⟨(by first | assumption | exact (by omega)), ?_⟩
      refine ⟨fun c => ?_, fun c => ?_⟩
      · exact hQ _ _ hI
      · refine sX6_turn (p1 := p1) hI (show isS 8 by decide) ?_
        intro x5_2232 M5_2233 hM5_2233 q2234
        refine sX11_isDone (p0 := x5_2232) hM5_2233  ?_
        intro x6_2235 q2236 q2237
        refine ⟨fun c => ?_, fun c => ?_⟩
        · exact hQ _ _ hM5_2233
        · exact hQ _ _ hM5_2233
    · unfold qX11_isTurned_J37
      refine ⟨(by first | assumption | exact (by omega)), ?_⟩
      refine ⟨fun c => ?_, fun c => ?_⟩
      · exact hQ _ _ hI
      · refine sX6_turn (p1 := p1) hI (show isS 8 by decide) ?_
        intro x5_2243 M5_2244 hM5_2244 q2245
        refine sX11_isDone (p0 := x5_2243) hM5_2244  ?_
        intro x6_2246 q2247 q2248
        refine ⟨fun c => ?_, fun c => ?_⟩
        · exact hQ _ _ hM5_2244
        · exact hQ _ _ hM5_2244
theorem sX11_when_L31 {p1 : Int} {X119 : Int → Int → Mem → Prop} {Q : Int → Mem → Prop} (hQ : ∀ z : Int, ∀ M' : Mem, IX M' → Q z M') (hX119 : ∀ w1 w2 : Int, ∀ M' : Mem, IX M' → (-1 ≤ w1 ∧ w1 ≤ 60 ∧ -1 ≤ w2 ∧ w2 ≤ 60) → X119 w1 w2 M') : ∀ (n : Nat) (v2 v3 v4 : Int) (M : Mem), IX M → (-1 ≤ v2 ∧ v2 ≤ 60 ∧ -1 ≤ v3 ∧ v3 ≤ 60 ∧ 0 ≤ v4 ∧ v4 ≤ 61 ∧ 0 ≤ p1 ∧ p1 ≤ 7) → 61 - v4 < (n : Int) → qX11_when_L31 p1 X119 Q n v2 v3 v4 M := by
  intro n
  induction n with
  | zero => intro v2 v3 v4 M hI hv hm; exact absurd hm (by omega)
  | succ n ih =>
    intro v2 v3 v4 M hI hv hm
    rw [qX11_when_L31]
    refine ⟨(by first | assumption | exact (by omega)), ?_⟩
    refine ⟨fun c => ?_, fun c => ?_⟩
    · exact hX119 _ _ _ hI (by omega)
    · refine sX6_copyFrom  hI (show isS 8 by decide) (show isS 15 by decide) ?_
      intro M6_2253 hM6_2253 gM6_2253
      refine sX11_isTurned (p1 := p1) hM6_2253 (by omega) ?_
      intro x7_2254 M7_2255 hM7_2255 q2256 q2257
      refine ⟨fun c => ?_, fun c => ?_⟩
      · unfold qX11_when_J98
        refine ⟨(hM7_2255).l16, ?_⟩
        refine sX10_advance  hM7_2255 (show isS 15 by decide) (hM7_2255).l16 ?_
        intro M10_2259 hM10_2259
        exact ih _ _ _ _ hM10_2259 (by omega) (by omega)
      · refine ⟨(hM7_2255).l16, ?_⟩
        refine sX10_toEnd  hM7_2255 (show isS 8 by decide) (hM7_2255).l16 ?_
        intro M12_2261 hM12_2261
        refine sX6_isRight (p1 := p1) hM12_2261 (show isS 8 by decide) (by omega) ?_
        intro x13_2262 q2263 q2264
        refine ⟨fun c => ?_, fun c => ?_⟩
        · unfold qX11_when_J98
          refine ⟨(hM12_2261).l16, ?_⟩
          refine sX10_advance  hM12_2261 (show isS 15 by decide) (hM12_2261).l16 ?_
          intro M10_2266 hM10_2266
          exact ih _ _ _ _ hM10_2266 (by omega) (by omega)
        · refine ⟨(by first | assumption | exact (by omega)), ?_⟩
          refine ⟨fun c => ?_, fun c => ?_⟩
          · unfold qX11_when_J94
            unfold qX11_when_J98
            refine ⟨(hM12_2261).l16, ?_⟩
            refine sX10_advance  hM12_2261 (show isS 15 by decide) (hM12_2261).l16 ?_
            intro M10_2269 hM10_2269
            exact ih _ _ _ _ hM10_2269 (by omega) (by omega)
          · unfold qX11_when_J94
            unfold qX11_when_J98
            refine ⟨(hM12_2261).l16, ?_⟩
            refine sX10_advance  hM12_2261 (show isS 15 by decide) (hM12_2261).l16 ?_
            intro M10_2271 hM10_2271
            exact ih _ _ _ _ hM10_2271 (by omega) (by omega)
theorem sX11_when {p1 : Int} {M : Mem} {Q : Int → Mem → Prop} (hI : IX M) (hQ : ∀ z : Int, ∀ M' : Mem, IX M' → Q z M') : qX11_when p1 M Q := by
  unfold qX11_when
  refine sX6_isMourner (p1 := p1) hI (show isS 1 by decide) ?_
  intro x1_2272 p2273 q2274 q2275
  refine ⟨fun c => ?_, fun c => ?_⟩
  · refine sX6_copyFrom  hI (show isS 15 by decide) (show isS 1 by decide) ?_
    intro M3_2277 hM3_2277 gM3_2277
    refine ⟨62, ?_⟩
    refine sX11_when_L31 ?_ ?_ _ _ _ _ _ hM3_2277 (by omega) (by omega)
    · exact hQ
    · intro v2_2278 v3_2279 M_2280 hM_2280 p2281
      refine ⟨(by first | assumption | exact (by omega)), ?_⟩
      refine ⟨fun c => ?_, fun c => ?_⟩
      · refine ⟨(by first | assumption | exact (by omega)), ?_⟩
        refine sX4_tellOne (p1 := v3_2279) hM_2280  ?_
        intro M21_2283 hM21_2283
        exact hQ _ _ hM21_2283
      · exact hQ _ _ hM_2280
  · exact hQ _ _ hI
theorem sX11_ableToTurn_L15   {Q : Int → Mem → Prop} (hQ : ∀ z : Int, ∀ M' : Mem, IX M' → Q z M') : ∀ (n : Nat) (v1 v2 : Int) (M : Mem), IX M → (0 ≤ v2 ∧ v2 ≤ 8) → iR v1 → 8 - v2 < (n : Int) → qX11_ableToTurn_L15 Q n v1 v2 M := by
  intro n
  induction n with
  | zero => intro v1 v2 M hI hv hrv1 hm; exact absurd hm (by omega)
  | succ n ih =>
    intro v1 v2 M hI hv hrv1 hm
    rw [qX11_ableToTurn_L15]
    intro x2_2286 ex2_2286 rx2_2286
    have bx2_2286 : 0 ≤ x2_2286 ∧ x2_2286 ≤ 8 := by rw [ex2_2286]; exact (bx_s0_7 (show isS 1 by decide)).mp (hI.bx _ _)
    refine ⟨(by first | assumption | exact (by omega)), ?_⟩
    refine ⟨fun c => ?_, fun c => ?_⟩
    · refine ⟨(by first | assumption | exact (by omega)), ?_⟩
      exact hQ _ _ hI
    · refine sX6_turn (p1 := v2) hI (show isS 8 by decide) ?_
      intro x6_2289 M6_2290 hM6_2290 q2291
      refine sX11_isDone (p0 := x6_2289) hM6_2290  ?_
      intro x7_2292 q2293 q2294
      refine ⟨fun c => ?_, fun c => ?_⟩
      · intro x9_2296 ex9_2296 rx9_2296
        first | (have fx9_2296 := oI_64 (a := v1) (b := 0) (by omega) (by omega); rw [← ex9_2296] at fx9_2296) | skip
        exact ih _ _ _ hM6_2290 (by omega) (by first | assumption | exact (by omega)) (by omega)
      · intro x10_2298 ex10_2298 rx10_2298
        first | (have fx10_2298 := slI_1 (b := v2) (by omega); rw [← ex10_2298] at fx10_2298) | skip
        intro x11_2299 ex11_2299 rx11_2299
        first | (have fx11_2299 := oI_64 (a := v1) (b := x10_2298) (by omega) (by omega); rw [← ex11_2299] at fx11_2299) | skip
        exact ih _ _ _ hM6_2290 (by omega) (by first | assumption | exact (by omega)) (by omega)
theorem sX11_ableToTurn  {M : Mem} {Q : Int → Mem → Prop} (hI : IX M) (hQ : ∀ z : Int, ∀ M' : Mem, IX M' → Q z M') : qX11_ableToTurn M Q := by
  unfold qX11_ableToTurn
  refine sX6_copyFrom  hI (show isS 8 by decide) (show isS 1 by decide) ?_
  intro M1_2300 hM1_2300 gM1_2300
  refine ⟨9, ?_⟩
  refine sX11_ableToTurn_L15 ?_ _ _ _ _ hM1_2300 (by omega) (by first | assumption | exact (by omega)) (by omega)
  · exact hQ
theorem sX11_turnInTrial_L13 {p1 : Int}  {Q : Mem → Prop} (hQ : ∀ M' : Mem, IX M' → Q M') : ∀ (n : Nat) (v2 : Int) (M : Mem), IX M → (0 ≤ v2 ∧ v2 ≤ 8) → 8 - v2 < (n : Int) → qX11_turnInTrial_L13 p1 Q n v2 M := by
  intro n
  induction n with
  | zero => intro v2 M hI hv hm; exact absurd hm (by omega)
  | succ n ih =>
    intro v2 M hI hv hm
    rw [qX11_turnInTrial_L13]
    intro x2_2301 ex2_2301 rx2_2301
    have bx2_2301 : 0 ≤ x2_2301 ∧ x2_2301 ≤ 8 := by rw [ex2_2301]; exact (bx_s0_7 (show isS 1 by decide)).mp (hI.bx _ _)
    refine ⟨(by first | assumption | exact (by omega)), ?_⟩
    refine ⟨fun c => ?_, fun c => ?_⟩
    · exact hQ _ hI
    · intro x5_2304 ex5_2304 rx5_2304
      intro x6_2305 ex6_2305 rx6_2305
      have fx6_2305 := aI_1 x5_2304; rw [← ex6_2305] at fx6_2305
      refine ⟨fun c => ?_, fun c => ?_⟩
      · exact ih _ _ hI (by omega) (by omega)
      · refine sX6_turn (p1 := v2) hI (show isS 8 by decide) ?_
        intro x8_2308 M8_2309 hM8_2309 q2310
        exact ih _ _ hM8_2309 (by omega) (by omega)
theorem sX11_turnInTrial {p1 : Int} {M : Mem} {Q : Mem → Prop} (hI : IX M) (hQ : ∀ M' : Mem, IX M' → Q M') : qX11_turnInTrial p1 M Q := by
  unfold qX11_turnInTrial
  refine sX6_copyFrom  hI (show isS 8 by decide) (show isS 1 by decide) ?_
  intro M1_2311 hM1_2311 gM1_2311
  refine ⟨9, ?_⟩
  refine sX11_turnInTrial_L13 ?_ _ _ _ hM1_2311 (by omega) (by omega)
  · exact hQ
theorem sX11_mends_L33 {p1 : Int} {X98 : Int → Int → Mem → Prop} {X116 : Int → Int → Mem → Prop} {Q : Int → Mem → Prop} {g0 : Int} (hQ : ∀ z : Int, ∀ M' : Mem, IX M' → Q z M') (hX98 : ∀ w1 w2 : Int, ∀ M' : Mem, IX M' → (0 ≤ w1 ∧ w1 ≤ 8 ∧ 0 ≤ w2 ∧ w2 ≤ 256) → X98 w1 w2 M') (hX116 : ∀ w1 w2 : Int, ∀ M' : Mem, IX M' → (w2 = g0 ∧ 0 ≤ w2 ∧ w2 ≤ 8) → X116 w1 w2 M') : ∀ (n : Nat) (v2 v3 v4 : Int) (M : Mem), IX M → (v3 = g0 ∧ 0 ≤ v3 ∧ v3 ≤ 8 ∧ 0 ≤ v4 ∧ v4 ≤ 256) → 256 - v4 < (n : Int) → qX11_mends_L33 p1 X98 X116 Q n v2 v3 v4 M := by
  intro n
  induction n with
  | zero => intro v2 v3 v4 M hI hv hm; exact absurd hm (by omega)
  | succ n ih =>
    intro v2 v3 v4 M hI hv hm
    rw [qX11_mends_L33]
    intro x7_2312 ex7_2312 rx7_2312
    have bx7_2312 : 0 ≤ x7_2312 ∧ x7_2312 ≤ 8 := by rw [ex7_2312]; exact (bx_s0_7 (show isS 1 by decide)).mp (hI.bx _ _)
    intro x8_2313 ex8_2313 rx8_2313
    first | (have fx8_2313 := slI_1 (b := x7_2312) (by omega); rw [← ex8_2313] at fx8_2313) | skip
    refine ⟨(by first | assumption | exact (by omega)), ?_⟩
    refine ⟨fun c => ?_, fun c => ?_⟩
    · exact hX116 _ _ _ hI (by omega)
    · intro x11_2316 ex11_2316 rx11_2316
      intro x12_2317 ex12_2317 rx12_2317
      refine ⟨fun c => ?_, fun c => ?_⟩
      · unfold qX11_mends_J69
        unfold qX11_mends_J70
        refine ⟨(by first | assumption | exact (by omega)), ?_⟩
        refine ⟨fun c => ?_, fun c => ?_⟩
        · exact ih _ _ _ _ hI (by omega) (by omega)
        · refine ⟨(by first | assumption | exact (by omega)), ?_⟩
          refine sX11_turnInTrial (p1 := v4) hI  ?_
          intro M17_2321 hM17_2321
          refine ⟨(hM17_2321).l16, ?_⟩
          refine sX11_rightOnesOfTrial  hM17_2321 (hM17_2321).l16 ?_
          intro x19_2322 M19_2323 hM19_2323 q2324
          refine sJ6_bitCount_0f7a4 (p0 := x19_2322) hM19_2323  ?_
          intro x20_2325 p2326 q2327
          refine ⟨fun c => ?_, fun c => ?_⟩
          · exact ih _ _ _ _ hM19_2323 (by omega) (by omega)
          · exact hX98 _ _ _ hM19_2323 (by omega)
      · refine sJ6_bitCount_0f7a4 (p0 := v4) hI  ?_
        intro x22_2331 p2332 q2333
        refine ⟨(by first | assumption | exact (by omega)), ?_⟩
        refine ⟨fun c => ?_, fun c => ?_⟩
        · unfold qX11_mends_J69
          unfold qX11_mends_J70
          refine ⟨(by first | assumption | exact (by omega)), ?_⟩
          refine ⟨fun c => ?_, fun c => ?_⟩
          · exact ih _ _ _ _ hI (by omega) (by omega)
          · refine ⟨(by first | assumption | exact (by omega)), ?_⟩
            refine sX11_turnInTrial (p1 := v4) hI  ?_
            intro M17_2337 hM17_2337
            refine ⟨(hM17_2337).l16, ?_⟩
            refine sX11_rightOnesOfTrial  hM17_2337 (hM17_2337).l16 ?_
            intro x19_2338 M19_2339 hM19_2339 q2340
            refine sJ6_bitCount_0f7a4 (p0 := x19_2338) hM19_2339  ?_
            intro x20_2341 p2342 q2343
            refine ⟨fun c => ?_, fun c => ?_⟩
            · exact ih _ _ _ _ hM19_2339 (by omega) (by omega)
            · exact hX98 _ _ _ hM19_2339 (by omega)
        · unfold qX11_mends_J70
          refine ⟨(by first | assumption | exact (by omega)), ?_⟩
          refine ⟨fun c => ?_, fun c => ?_⟩
          · exact ih _ _ _ _ hI (by omega) (by omega)
          · refine ⟨(by first | assumption | exact (by omega)), ?_⟩
            refine sX11_turnInTrial (p1 := v4) hI  ?_
            intro M17_2349 hM17_2349
            refine ⟨(hM17_2349).l16, ?_⟩
            refine sX11_rightOnesOfTrial  hM17_2349 (hM17_2349).l16 ?_
            intro x19_2350 M19_2351 hM19_2351 q2352
            refine sJ6_bitCount_0f7a4 (p0 := x19_2350) hM19_2351  ?_
            intro x20_2353 p2354 q2355
            refine ⟨fun c => ?_, fun c => ?_⟩
            · exact ih _ _ _ _ hM19_2351 (by omega) (by omega)
            · exact hX98 _ _ _ hM19_2351 (by omega)
theorem sX11_mends_L19 {p1 : Int} {X98 : Int → Int → Mem → Prop} {Q : Int → Mem → Prop} (hQ : ∀ z : Int, ∀ M' : Mem, IX M' → Q z M') (hX98 : ∀ w1 w2 : Int, ∀ M' : Mem, IX M' → (0 ≤ w1 ∧ w1 ≤ 8 ∧ 0 ≤ w2 ∧ w2 ≤ 256) → X98 w1 w2 M') : ∀ (n : Nat) (v2 v3 : Int) (M : Mem), IX M → (0 ≤ v3 ∧ v3 ≤ 9) → 9 - v3 < (n : Int) → qX11_mends_L19 p1 X98 Q n v2 v3 M := by
  intro n
  induction n with
  | zero => intro v2 v3 M hI hv hm; exact absurd hm (by omega)
  | succ n ih =>
    intro v2 v3 M hI hv hm
    rw [qX11_mends_L19]
    intro x4_2358 ex4_2358 rx4_2358
    have bx4_2358 : 0 ≤ x4_2358 ∧ x4_2358 ≤ 8 := by rw [ex4_2358]; exact (bx_s0_7 (show isS 1 by decide)).mp (hI.bx _ _)
    refine ⟨(by first | assumption | exact (by omega)), ?_⟩
    refine ⟨fun c => ?_, fun c => ?_⟩
    · exact hQ _ _ hI
    · refine ⟨257, ?_⟩
      refine sX11_mends_L33 (g0 := v3) ?_ ?_ ?_ _ _ _ _ _ hI (by omega) (by omega)
      · exact hQ
      · intro v3_2361 v4_2362 M_2363 hM_2363 p2364
        exact hX98 _ _ _ hM_2363 (by omega)
      · intro v2_2365 v3_2366 M_2367 hM_2367 p2368
        exact ih _ _ _ hM_2367 (by omega) (by omega)
theorem sX11_mends {p1 : Int} {M : Mem} {Q : Int → Mem → Prop} (hI : IX M) (hQ : ∀ z : Int, ∀ M' : Mem, IX M' → Q z M') : qX11_mends p1 M Q := by
  unfold qX11_mends
  refine ⟨fun c => ?_, fun c => ?_⟩
  · exact hQ _ _ hI
  · refine ⟨fun c => ?_, fun c => ?_⟩
    · refine sX11_ableToTurn  hI  ?_
      intro x3_2372 M3_2373 hM3_2373 q2374
      refine ⟨10, ?_⟩
      refine sX11_mends_L19 ?_ ?_ _ _ _ _ hM3_2373 (by omega) (by omega)
      · exact hQ
      · intro v3_2375 v4_2376 M_2377 hM_2377 p2378
        refine ⟨(by first | assumption | exact (by omega)), ?_⟩
        refine sX4_tellOne (p1 := v4_2376) hM_2377  ?_
        intro M28_2379 hM28_2379
        refine ⟨(by first | assumption | exact (by omega)), ?_⟩
        exact hQ _ _ hM28_2379
    · exact hQ _ _ hI
theorem sX6_takeAway_L7 {k0 : Nat} {p1 : Int}  {Q : Mem → Prop} (hk0 : isS k0) (hp : 0 ≤ p1 ∧ p1 ≤ 5) (hQ : ∀ M' : Mem, IX M' → Q M') : ∀ (n : Nat) (v2 : Int) (M : Mem), IX M → (0 ≤ v2 ∧ v2 ≤ 8) → 8 - v2 < (n : Int) → qX6_takeAway_L7 k0 p1 Q n v2 M := by
  intro n
  induction n with
  | zero => intro v2 M hI hv hm; exact absurd hm (by omega)
  | succ n ih =>
    intro v2 M hI hv hm
    rw [qX6_takeAway_L7]
    have ek0 : 0 < k0 ∧ k0 < 155 ∧ (k0 - 1) % 7 = 0 := hk0
    intro x2_2381 ex2_2381 rx2_2381
    have bx2_2381 : 0 ≤ x2_2381 ∧ x2_2381 ≤ 8 := by rw [ex2_2381]; exact (bx_s0_7 hk0).mp (hI.bx _ _)
    refine ⟨(by first | assumption | exact (by omega)), ?_⟩
    refine ⟨fun c => ?_, fun c => ?_⟩
    · exact hQ _ hI
    · refine ⟨by omega, ?_⟩
      refine ⟨by omega, ?_⟩
      intro x7_2384 ex7_2384 rx7_2384
      have bx7_2384 : -1 ≤ x7_2384 ∧ x7_2384 ≤ 5 := by rw [ex7_2384]; exact (bx_s5 hk0).mp (hI.bx _ _)
      refine ⟨fun c => ?_, fun c => ?_⟩
      · exact ih _ _ hI (by omega) (by omega)
      · intro M9_2387 h_M9_2387
        have hM9_2387 : IX M9_2387 := by rw [h_M9_2387]; exact hI.up (isS.nsp hk0 5 (by decide)) ((bx_s5 hk0).mpr (by omega))
        exact ih _ _ hM9_2387 (by omega) (by omega)
end
