/-! THE CONSTRUCTORS (gen/init.py): each state of the cells a constant -/
def iw0 : sm_W := []
theorem ile0 : iw0.length = 0 := rfl
def iw1 : sm_W := iw0 ++ [.inr (6, sm_def 6)]
theorem ifo1 : iw0 ++ [.inr (6, sm_def 6)] = iw1 := rfl
theorem ile1 : iw1.length = 1 := rfl
def iw2 : sm_W := iw1 ++ [.inr (0, sm_def 0)]
theorem ifo2 : iw1 ++ [.inr (0, sm_def 0)] = iw2 := rfl
theorem ile2 : iw2.length = 2 := rfl
def iw3 : sm_W := iw2 ++ [.inl (0, 6, .inl (fun _ => 0))]
theorem ifo3 : iw2 ++ [.inl (0, 6, .inl (fun _ => 0))] = iw3 := rfl
theorem ile3 : iw3.length = 3 := rfl
theorem ige3_1 : iw3[1]? = some (.inr (0, [.null, .null, .null, .null, .null, .int 0])) := rfl
def iw4 : sm_W := iw3.set 1 (.inr (0, [.ref 102, .null, .null, .null, .null, .int 0]))
theorem ifo4 : iw3.set 1 (.inr (0, [.ref 102, .null, .null, .null, .null, .int 0])) = iw4 := rfl
theorem ile4 : iw4.length = 3 := rfl
def iw5 : sm_W := iw4 ++ .inl (2, 4, .inr (.inr (.inr (.inr (fun i => if i < 4 then some (104 + i) else none))))) :: List.replicate 4 (.inl (0, 4, .inl (fun _ => 0)))
theorem ifo5 : iw4 ++ .inl (2, 4, .inr (.inr (.inr (.inr (fun i => if i < 4 then some (104 + i) else none))))) :: List.replicate 4 (.inl (0, 4, .inl (fun _ => 0))) = iw5 := rfl
theorem ile5 : iw5.length = 8 := rfl
theorem ige5_1 : iw5[1]? = some (.inr (0, [.ref 102, .null, .null, .null, .null, .int 0])) := rfl
def iw6 : sm_W := iw5.set 1 (.inr (0, [.ref 102, .ref 103, .null, .null, .null, .int 0]))
theorem ifo6 : iw5.set 1 (.inr (0, [.ref 102, .ref 103, .null, .null, .null, .int 0])) = iw6 := rfl
theorem ile6 : iw6.length = 8 := rfl
def iw7 : sm_W := iw6 ++ .inl (2, 4, .inr (.inr (.inr (.inr (fun i => if i < 4 then some (109 + i) else none))))) :: List.replicate 4 (.inl (0, 12, .inl (fun _ => 0)))
theorem ifo7 : iw6 ++ .inl (2, 4, .inr (.inr (.inr (.inr (fun i => if i < 4 then some (109 + i) else none))))) :: List.replicate 4 (.inl (0, 12, .inl (fun _ => 0))) = iw7 := rfl
theorem ile7 : iw7.length = 13 := rfl
theorem ige7_1 : iw7[1]? = some (.inr (0, [.ref 102, .ref 103, .null, .null, .null, .int 0])) := rfl
def iw8 : sm_W := iw7.set 1 (.inr (0, [.ref 102, .ref 103, .ref 108, .null, .null, .int 0]))
theorem ifo8 : iw7.set 1 (.inr (0, [.ref 102, .ref 103, .ref 108, .null, .null, .int 0])) = iw8 := rfl
theorem ile8 : iw8.length = 13 := rfl
def iw9 : sm_W := iw8 ++ [.inl (0, 6, .inl (fun _ => 0))]
theorem ifo9 : iw8 ++ [.inl (0, 6, .inl (fun _ => 0))] = iw9 := rfl
theorem ile9 : iw9.length = 14 := rfl
theorem ige9_1 : iw9[1]? = some (.inr (0, [.ref 102, .ref 103, .ref 108, .null, .null, .int 0])) := rfl
def iw10 : sm_W := iw9.set 1 (.inr (0, [.ref 102, .ref 103, .ref 108, .ref 113, .null, .int 0]))
theorem ifo10 : iw9.set 1 (.inr (0, [.ref 102, .ref 103, .ref 108, .ref 113, .null, .int 0])) = iw10 := rfl
theorem ile10 : iw10.length = 14 := rfl
def iw11 : sm_W := iw10 ++ [.inl (0, 8, .inl (fun _ => 0))]
theorem ifo11 : iw10 ++ [.inl (0, 8, .inl (fun _ => 0))] = iw11 := rfl
theorem ile11 : iw11.length = 15 := rfl
theorem ige11_1 : iw11[1]? = some (.inr (0, [.ref 102, .ref 103, .ref 108, .ref 113, .null, .int 0])) := rfl
def iw12 : sm_W := iw11.set 1 (.inr (0, [.ref 102, .ref 103, .ref 108, .ref 113, .ref 114, .int 0]))
theorem ifo12 : iw11.set 1 (.inr (0, [.ref 102, .ref 103, .ref 108, .ref 113, .ref 114, .int 0])) = iw12 := rfl
theorem ile12 : iw12.length = 15 := rfl
theorem ige12_0 : iw12[0]? = some (.inr (6, [.null, .null, .null, .null, .null, .null, .int 0, .int 0, .int 0])) := rfl
def iw13 : sm_W := iw12.set 0 (.inr (6, [.ref 101, .null, .null, .null, .null, .null, .int 0, .int 0, .int 0]))
theorem ifo13 : iw12.set 0 (.inr (6, [.ref 101, .null, .null, .null, .null, .null, .int 0, .int 0, .int 0])) = iw13 := rfl
theorem ile13 : iw13.length = 15 := rfl
def iw14 : sm_W := iw13 ++ [.inr (0, sm_def 0)]
theorem ifo14 : iw13 ++ [.inr (0, sm_def 0)] = iw14 := rfl
theorem ile14 : iw14.length = 16 := rfl
def iw15 : sm_W := iw14 ++ [.inl (0, 6, .inl (fun _ => 0))]
theorem ifo15 : iw14 ++ [.inl (0, 6, .inl (fun _ => 0))] = iw15 := rfl
theorem ile15 : iw15.length = 17 := rfl
theorem ige15_15 : iw15[15]? = some (.inr (0, [.null, .null, .null, .null, .null, .int 0])) := rfl
def iw16 : sm_W := iw15.set 15 (.inr (0, [.ref 116, .null, .null, .null, .null, .int 0]))
theorem ifo16 : iw15.set 15 (.inr (0, [.ref 116, .null, .null, .null, .null, .int 0])) = iw16 := rfl
theorem ile16 : iw16.length = 17 := rfl
def iw17 : sm_W := iw16 ++ .inl (2, 4, .inr (.inr (.inr (.inr (fun i => if i < 4 then some (118 + i) else none))))) :: List.replicate 4 (.inl (0, 4, .inl (fun _ => 0)))
theorem ifo17 : iw16 ++ .inl (2, 4, .inr (.inr (.inr (.inr (fun i => if i < 4 then some (118 + i) else none))))) :: List.replicate 4 (.inl (0, 4, .inl (fun _ => 0))) = iw17 := rfl
theorem ile17 : iw17.length = 22 := rfl
theorem ige17_15 : iw17[15]? = some (.inr (0, [.ref 116, .null, .null, .null, .null, .int 0])) := rfl
def iw18 : sm_W := iw17.set 15 (.inr (0, [.ref 116, .ref 117, .null, .null, .null, .int 0]))
theorem ifo18 : iw17.set 15 (.inr (0, [.ref 116, .ref 117, .null, .null, .null, .int 0])) = iw18 := rfl
theorem ile18 : iw18.length = 22 := rfl
def iw19 : sm_W := iw18 ++ .inl (2, 4, .inr (.inr (.inr (.inr (fun i => if i < 4 then some (123 + i) else none))))) :: List.replicate 4 (.inl (0, 12, .inl (fun _ => 0)))
theorem ifo19 : iw18 ++ .inl (2, 4, .inr (.inr (.inr (.inr (fun i => if i < 4 then some (123 + i) else none))))) :: List.replicate 4 (.inl (0, 12, .inl (fun _ => 0))) = iw19 := rfl
theorem ile19 : iw19.length = 27 := rfl
theorem ige19_15 : iw19[15]? = some (.inr (0, [.ref 116, .ref 117, .null, .null, .null, .int 0])) := rfl
def iw20 : sm_W := iw19.set 15 (.inr (0, [.ref 116, .ref 117, .ref 122, .null, .null, .int 0]))
theorem ifo20 : iw19.set 15 (.inr (0, [.ref 116, .ref 117, .ref 122, .null, .null, .int 0])) = iw20 := rfl
theorem ile20 : iw20.length = 27 := rfl
def iw21 : sm_W := iw20 ++ [.inl (0, 6, .inl (fun _ => 0))]
theorem ifo21 : iw20 ++ [.inl (0, 6, .inl (fun _ => 0))] = iw21 := rfl
theorem ile21 : iw21.length = 28 := rfl
theorem ige21_15 : iw21[15]? = some (.inr (0, [.ref 116, .ref 117, .ref 122, .null, .null, .int 0])) := rfl
def iw22 : sm_W := iw21.set 15 (.inr (0, [.ref 116, .ref 117, .ref 122, .ref 127, .null, .int 0]))
theorem ifo22 : iw21.set 15 (.inr (0, [.ref 116, .ref 117, .ref 122, .ref 127, .null, .int 0])) = iw22 := rfl
theorem ile22 : iw22.length = 28 := rfl
def iw23 : sm_W := iw22 ++ [.inl (0, 8, .inl (fun _ => 0))]
theorem ifo23 : iw22 ++ [.inl (0, 8, .inl (fun _ => 0))] = iw23 := rfl
theorem ile23 : iw23.length = 29 := rfl
theorem ige23_15 : iw23[15]? = some (.inr (0, [.ref 116, .ref 117, .ref 122, .ref 127, .null, .int 0])) := rfl
def iw24 : sm_W := iw23.set 15 (.inr (0, [.ref 116, .ref 117, .ref 122, .ref 127, .ref 128, .int 0]))
theorem ifo24 : iw23.set 15 (.inr (0, [.ref 116, .ref 117, .ref 122, .ref 127, .ref 128, .int 0])) = iw24 := rfl
theorem ile24 : iw24.length = 29 := rfl
theorem ige24_0 : iw24[0]? = some (.inr (6, [.ref 101, .null, .null, .null, .null, .null, .int 0, .int 0, .int 0])) := rfl
def iw25 : sm_W := iw24.set 0 (.inr (6, [.ref 101, .ref 115, .null, .null, .null, .null, .int 0, .int 0, .int 0]))
theorem ifo25 : iw24.set 0 (.inr (6, [.ref 101, .ref 115, .null, .null, .null, .null, .int 0, .int 0, .int 0])) = iw25 := rfl
theorem ile25 : iw25.length = 29 := rfl
def iw26 : sm_W := iw25 ++ [.inr (3, sm_def 3)]
theorem ifo26 : iw25 ++ [.inr (3, sm_def 3)] = iw26 := rfl
theorem ile26 : iw26.length = 30 := rfl
def iw27 : sm_W := iw26 ++ [.inl (0, 32, .inl (fun _ => 0))]
theorem ifo27 : iw26 ++ [.inl (0, 32, .inl (fun _ => 0))] = iw27 := rfl
theorem ile27 : iw27.length = 31 := rfl
theorem ige27_29 : iw27[29]? = some (.inr (3, [.null, .null, .int 0])) := rfl
def iw28 : sm_W := iw27.set 29 (.inr (3, [.ref 130, .null, .int 0]))
theorem ifo28 : iw27.set 29 (.inr (3, [.ref 130, .null, .int 0])) = iw28 := rfl
theorem ile28 : iw28.length = 31 := rfl
def iw29 : sm_W := iw28 ++ [.inl (0, 32, .inl (fun _ => 0))]
theorem ifo29 : iw28 ++ [.inl (0, 32, .inl (fun _ => 0))] = iw29 := rfl
theorem ile29 : iw29.length = 32 := rfl
theorem ige29_29 : iw29[29]? = some (.inr (3, [.ref 130, .null, .int 0])) := rfl
def iw30 : sm_W := iw29.set 29 (.inr (3, [.ref 130, .ref 131, .int 0]))
theorem ifo30 : iw29.set 29 (.inr (3, [.ref 130, .ref 131, .int 0])) = iw30 := rfl
theorem ile30 : iw30.length = 32 := rfl
theorem ige30_0 : iw30[0]? = some (.inr (6, [.ref 101, .ref 115, .null, .null, .null, .null, .int 0, .int 0, .int 0])) := rfl
def iw31 : sm_W := iw30.set 0 (.inr (6, [.ref 101, .ref 115, .ref 129, .null, .null, .null, .int 0, .int 0, .int 0]))
theorem ifo31 : iw30.set 0 (.inr (6, [.ref 101, .ref 115, .ref 129, .null, .null, .null, .int 0, .int 0, .int 0])) = iw31 := rfl
theorem ile31 : iw31.length = 32 := rfl
def iw32 : sm_W := iw31 ++ [.inl (3, 4, .inr (.inr (.inr (.inr (fun _ => none)))))]
theorem ifo32 : iw31 ++ [.inl (3, 4, .inr (.inr (.inr (.inr (fun _ => none)))))] = iw32 := rfl
theorem ile32 : iw32.length = 33 := rfl
theorem ige32_0 : iw32[0]? = some (.inr (6, [.ref 101, .ref 115, .ref 129, .null, .null, .null, .int 0, .int 0, .int 0])) := rfl
def iw33 : sm_W := iw32.set 0 (.inr (6, [.ref 101, .ref 115, .ref 129, .ref 132, .null, .null, .int 0, .int 0, .int 0]))
theorem ifo33 : iw32.set 0 (.inr (6, [.ref 101, .ref 115, .ref 129, .ref 132, .null, .null, .int 0, .int 0, .int 0])) = iw33 := rfl
theorem ile33 : iw33.length = 33 := rfl
theorem ige33_0 : iw33[0]? = some (.inr (6, [.ref 101, .ref 115, .ref 129, .ref 132, .null, .null, .int 0, .int 0, .int 0])) := rfl
def iw34 : sm_W := iw33 ++ [.inr (3, sm_def 3)]
theorem ifo34 : iw33 ++ [.inr (3, sm_def 3)] = iw34 := rfl
theorem ile34 : iw34.length = 34 := rfl
def iw35 : sm_W := iw34 ++ [.inl (0, 32, .inl (fun _ => 0))]
theorem ifo35 : iw34 ++ [.inl (0, 32, .inl (fun _ => 0))] = iw35 := rfl
theorem ile35 : iw35.length = 35 := rfl
theorem ige35_33 : iw35[33]? = some (.inr (3, [.null, .null, .int 0])) := rfl
def iw36 : sm_W := iw35.set 33 (.inr (3, [.ref 134, .null, .int 0]))
theorem ifo36 : iw35.set 33 (.inr (3, [.ref 134, .null, .int 0])) = iw36 := rfl
theorem ile36 : iw36.length = 35 := rfl
def iw37 : sm_W := iw36 ++ [.inl (0, 32, .inl (fun _ => 0))]
theorem ifo37 : iw36 ++ [.inl (0, 32, .inl (fun _ => 0))] = iw37 := rfl
theorem ile37 : iw37.length = 36 := rfl
theorem ige37_33 : iw37[33]? = some (.inr (3, [.ref 134, .null, .int 0])) := rfl
def iw38 : sm_W := iw37.set 33 (.inr (3, [.ref 134, .ref 135, .int 0]))
theorem ifo38 : iw37.set 33 (.inr (3, [.ref 134, .ref 135, .int 0])) = iw38 := rfl
theorem ile38 : iw38.length = 36 := rfl
theorem ige38_32 : iw38[32]? = some (.inl (3, 4, .inr (.inr (.inr (.inr (fun _ => none)))))) := rfl
theorem ige38_33 : iw38[33]? = some (.inr (3, [.ref 134, .ref 135, .int 0])) := rfl
def iw39 : sm_W := iw38.set 32 (.inl (3, 4, .inr (.inr (.inr (.inr (va_up (fun _ => none) 0 (some 133)))))))
theorem ifo39 : iw38.set 32 (.inl (3, 4, .inr (.inr (.inr (.inr (va_up (fun _ => none) 0 (some 133))))))) = iw39 := rfl
theorem ile39 : iw39.length = 36 := rfl
theorem ige39_0 : iw39[0]? = some (.inr (6, [.ref 101, .ref 115, .ref 129, .ref 132, .null, .null, .int 0, .int 0, .int 0])) := rfl
def iw40 : sm_W := iw39 ++ [.inr (3, sm_def 3)]
theorem ifo40 : iw39 ++ [.inr (3, sm_def 3)] = iw40 := rfl
theorem ile40 : iw40.length = 37 := rfl
def iw41 : sm_W := iw40 ++ [.inl (0, 32, .inl (fun _ => 0))]
theorem ifo41 : iw40 ++ [.inl (0, 32, .inl (fun _ => 0))] = iw41 := rfl
theorem ile41 : iw41.length = 38 := rfl
theorem ige41_36 : iw41[36]? = some (.inr (3, [.null, .null, .int 0])) := rfl
def iw42 : sm_W := iw41.set 36 (.inr (3, [.ref 137, .null, .int 0]))
theorem ifo42 : iw41.set 36 (.inr (3, [.ref 137, .null, .int 0])) = iw42 := rfl
theorem ile42 : iw42.length = 38 := rfl
def iw43 : sm_W := iw42 ++ [.inl (0, 32, .inl (fun _ => 0))]
theorem ifo43 : iw42 ++ [.inl (0, 32, .inl (fun _ => 0))] = iw43 := rfl
theorem ile43 : iw43.length = 39 := rfl
theorem ige43_36 : iw43[36]? = some (.inr (3, [.ref 137, .null, .int 0])) := rfl
def iw44 : sm_W := iw43.set 36 (.inr (3, [.ref 137, .ref 138, .int 0]))
theorem ifo44 : iw43.set 36 (.inr (3, [.ref 137, .ref 138, .int 0])) = iw44 := rfl
theorem ile44 : iw44.length = 39 := rfl
theorem ige44_32 : iw44[32]? = some (.inl (3, 4, .inr (.inr (.inr (.inr (va_up (fun _ => none) 0 (some 133))))))) := rfl
theorem ige44_36 : iw44[36]? = some (.inr (3, [.ref 137, .ref 138, .int 0])) := rfl
def iw45 : sm_W := iw44.set 32 (.inl (3, 4, .inr (.inr (.inr (.inr (va_up (va_up (fun _ => none) 0 (some 133)) 1 (some 136)))))))
theorem ifo45 : iw44.set 32 (.inl (3, 4, .inr (.inr (.inr (.inr (va_up (va_up (fun _ => none) 0 (some 133)) 1 (some 136))))))) = iw45 := rfl
theorem ile45 : iw45.length = 39 := rfl
theorem ige45_0 : iw45[0]? = some (.inr (6, [.ref 101, .ref 115, .ref 129, .ref 132, .null, .null, .int 0, .int 0, .int 0])) := rfl
def iw46 : sm_W := iw45 ++ [.inr (3, sm_def 3)]
theorem ifo46 : iw45 ++ [.inr (3, sm_def 3)] = iw46 := rfl
theorem ile46 : iw46.length = 40 := rfl
def iw47 : sm_W := iw46 ++ [.inl (0, 32, .inl (fun _ => 0))]
theorem ifo47 : iw46 ++ [.inl (0, 32, .inl (fun _ => 0))] = iw47 := rfl
theorem ile47 : iw47.length = 41 := rfl
theorem ige47_39 : iw47[39]? = some (.inr (3, [.null, .null, .int 0])) := rfl
def iw48 : sm_W := iw47.set 39 (.inr (3, [.ref 140, .null, .int 0]))
theorem ifo48 : iw47.set 39 (.inr (3, [.ref 140, .null, .int 0])) = iw48 := rfl
theorem ile48 : iw48.length = 41 := rfl
def iw49 : sm_W := iw48 ++ [.inl (0, 32, .inl (fun _ => 0))]
theorem ifo49 : iw48 ++ [.inl (0, 32, .inl (fun _ => 0))] = iw49 := rfl
theorem ile49 : iw49.length = 42 := rfl
theorem ige49_39 : iw49[39]? = some (.inr (3, [.ref 140, .null, .int 0])) := rfl
def iw50 : sm_W := iw49.set 39 (.inr (3, [.ref 140, .ref 141, .int 0]))
theorem ifo50 : iw49.set 39 (.inr (3, [.ref 140, .ref 141, .int 0])) = iw50 := rfl
theorem ile50 : iw50.length = 42 := rfl
theorem ige50_32 : iw50[32]? = some (.inl (3, 4, .inr (.inr (.inr (.inr (va_up (va_up (fun _ => none) 0 (some 133)) 1 (some 136))))))) := rfl
theorem ige50_39 : iw50[39]? = some (.inr (3, [.ref 140, .ref 141, .int 0])) := rfl
def iw51 : sm_W := iw50.set 32 (.inl (3, 4, .inr (.inr (.inr (.inr (va_up (va_up (va_up (fun _ => none) 0 (some 133)) 1 (some 136)) 2 (some 139)))))))
theorem ifo51 : iw50.set 32 (.inl (3, 4, .inr (.inr (.inr (.inr (va_up (va_up (va_up (fun _ => none) 0 (some 133)) 1 (some 136)) 2 (some 139))))))) = iw51 := rfl
theorem ile51 : iw51.length = 42 := rfl
theorem ige51_0 : iw51[0]? = some (.inr (6, [.ref 101, .ref 115, .ref 129, .ref 132, .null, .null, .int 0, .int 0, .int 0])) := rfl
def iw52 : sm_W := iw51 ++ [.inr (3, sm_def 3)]
theorem ifo52 : iw51 ++ [.inr (3, sm_def 3)] = iw52 := rfl
theorem ile52 : iw52.length = 43 := rfl
def iw53 : sm_W := iw52 ++ [.inl (0, 32, .inl (fun _ => 0))]
theorem ifo53 : iw52 ++ [.inl (0, 32, .inl (fun _ => 0))] = iw53 := rfl
theorem ile53 : iw53.length = 44 := rfl
theorem ige53_42 : iw53[42]? = some (.inr (3, [.null, .null, .int 0])) := rfl
def iw54 : sm_W := iw53.set 42 (.inr (3, [.ref 143, .null, .int 0]))
theorem ifo54 : iw53.set 42 (.inr (3, [.ref 143, .null, .int 0])) = iw54 := rfl
theorem ile54 : iw54.length = 44 := rfl
def iw55 : sm_W := iw54 ++ [.inl (0, 32, .inl (fun _ => 0))]
theorem ifo55 : iw54 ++ [.inl (0, 32, .inl (fun _ => 0))] = iw55 := rfl
theorem ile55 : iw55.length = 45 := rfl
theorem ige55_42 : iw55[42]? = some (.inr (3, [.ref 143, .null, .int 0])) := rfl
def iw56 : sm_W := iw55.set 42 (.inr (3, [.ref 143, .ref 144, .int 0]))
theorem ifo56 : iw55.set 42 (.inr (3, [.ref 143, .ref 144, .int 0])) = iw56 := rfl
theorem ile56 : iw56.length = 45 := rfl
theorem ige56_32 : iw56[32]? = some (.inl (3, 4, .inr (.inr (.inr (.inr (va_up (va_up (va_up (fun _ => none) 0 (some 133)) 1 (some 136)) 2 (some 139))))))) := rfl
theorem ige56_42 : iw56[42]? = some (.inr (3, [.ref 143, .ref 144, .int 0])) := rfl
def iw57 : sm_W := iw56.set 32 (.inl (3, 4, .inr (.inr (.inr (.inr (va_up (va_up (va_up (va_up (fun _ => none) 0 (some 133)) 1 (some 136)) 2 (some 139)) 3 (some 142)))))))
theorem ifo57 : iw56.set 32 (.inl (3, 4, .inr (.inr (.inr (.inr (va_up (va_up (va_up (va_up (fun _ => none) 0 (some 133)) 1 (some 136)) 2 (some 139)) 3 (some 142))))))) = iw57 := rfl
theorem ile57 : iw57.length = 45 := rfl
def iw58 : sm_W := iw57 ++ [.inr (1, sm_def 1)]
theorem ifo58 : iw57 ++ [.inr (1, sm_def 1)] = iw58 := rfl
theorem ile58 : iw58.length = 46 := rfl
def iw59 : sm_W := iw58 ++ [.inl (4, 4, .inr (.inr (.inr (.inr (fun _ => none)))))]
theorem ifo59 : iw58 ++ [.inl (4, 4, .inr (.inr (.inr (.inr (fun _ => none)))))] = iw59 := rfl
theorem ile59 : iw59.length = 47 := rfl
theorem ige59_45 : iw59[45]? = some (.inr (1, [.null, .int 0])) := rfl
def iw60 : sm_W := iw59.set 45 (.inr (1, [.ref 146, .int 0]))
theorem ifo60 : iw59.set 45 (.inr (1, [.ref 146, .int 0])) = iw60 := rfl
theorem ile60 : iw60.length = 47 := rfl
theorem ige60_45 : iw60[45]? = some (.inr (1, [.ref 146, .int 0])) := rfl
def iw61 : sm_W := iw60 ++ [.inr (5, sm_def 5)]
theorem ifo61 : iw60 ++ [.inr (5, sm_def 5)] = iw61 := rfl
theorem ile61 : iw61.length = 48 := rfl
def iw62 : sm_W := iw61 ++ [.inl (0, 4, .inl (fun _ => 0))]
theorem ifo62 : iw61 ++ [.inl (0, 4, .inl (fun _ => 0))] = iw62 := rfl
theorem ile62 : iw62.length = 49 := rfl
theorem ige62_47 : iw62[47]? = some (.inr (5, [.int 0, .int 0, .int 0, .int 0, .int 0, .int 0, .int 0, .int 0, .null])) := rfl
def iw63 : sm_W := iw62.set 47 (.inr (5, [.int 0, .int 0, .int 0, .int 0, .int 0, .int 0, .int 0, .int 0, .ref 148]))
theorem ifo63 : iw62.set 47 (.inr (5, [.int 0, .int 0, .int 0, .int 0, .int 0, .int 0, .int 0, .int 0, .ref 148])) = iw63 := rfl
theorem ile63 : iw63.length = 49 := rfl
theorem ige63_46 : iw63[46]? = some (.inl (4, 4, .inr (.inr (.inr (.inr (fun _ => none)))))) := rfl
theorem ige63_47 : iw63[47]? = some (.inr (5, [.int 0, .int 0, .int 0, .int 0, .int 0, .int 0, .int 0, .int 0, .ref 148])) := rfl
def iw64 : sm_W := iw63.set 46 (.inl (4, 4, .inr (.inr (.inr (.inr (va_up (fun _ => none) 0 (some 147)))))))
theorem ifo64 : iw63.set 46 (.inl (4, 4, .inr (.inr (.inr (.inr (va_up (fun _ => none) 0 (some 147))))))) = iw64 := rfl
theorem ile64 : iw64.length = 49 := rfl
theorem ige64_45 : iw64[45]? = some (.inr (1, [.ref 146, .int 0])) := rfl
def iw65 : sm_W := iw64 ++ [.inr (5, sm_def 5)]
theorem ifo65 : iw64 ++ [.inr (5, sm_def 5)] = iw65 := rfl
theorem ile65 : iw65.length = 50 := rfl
def iw66 : sm_W := iw65 ++ [.inl (0, 4, .inl (fun _ => 0))]
theorem ifo66 : iw65 ++ [.inl (0, 4, .inl (fun _ => 0))] = iw66 := rfl
theorem ile66 : iw66.length = 51 := rfl
theorem ige66_49 : iw66[49]? = some (.inr (5, [.int 0, .int 0, .int 0, .int 0, .int 0, .int 0, .int 0, .int 0, .null])) := rfl
def iw67 : sm_W := iw66.set 49 (.inr (5, [.int 0, .int 0, .int 0, .int 0, .int 0, .int 0, .int 0, .int 0, .ref 150]))
theorem ifo67 : iw66.set 49 (.inr (5, [.int 0, .int 0, .int 0, .int 0, .int 0, .int 0, .int 0, .int 0, .ref 150])) = iw67 := rfl
theorem ile67 : iw67.length = 51 := rfl
theorem ige67_46 : iw67[46]? = some (.inl (4, 4, .inr (.inr (.inr (.inr (va_up (fun _ => none) 0 (some 147))))))) := rfl
theorem ige67_49 : iw67[49]? = some (.inr (5, [.int 0, .int 0, .int 0, .int 0, .int 0, .int 0, .int 0, .int 0, .ref 150])) := rfl
def iw68 : sm_W := iw67.set 46 (.inl (4, 4, .inr (.inr (.inr (.inr (va_up (va_up (fun _ => none) 0 (some 147)) 1 (some 149)))))))
theorem ifo68 : iw67.set 46 (.inl (4, 4, .inr (.inr (.inr (.inr (va_up (va_up (fun _ => none) 0 (some 147)) 1 (some 149))))))) = iw68 := rfl
theorem ile68 : iw68.length = 51 := rfl
theorem ige68_45 : iw68[45]? = some (.inr (1, [.ref 146, .int 0])) := rfl
def iw69 : sm_W := iw68 ++ [.inr (5, sm_def 5)]
theorem ifo69 : iw68 ++ [.inr (5, sm_def 5)] = iw69 := rfl
theorem ile69 : iw69.length = 52 := rfl
def iw70 : sm_W := iw69 ++ [.inl (0, 4, .inl (fun _ => 0))]
theorem ifo70 : iw69 ++ [.inl (0, 4, .inl (fun _ => 0))] = iw70 := rfl
theorem ile70 : iw70.length = 53 := rfl
theorem ige70_51 : iw70[51]? = some (.inr (5, [.int 0, .int 0, .int 0, .int 0, .int 0, .int 0, .int 0, .int 0, .null])) := rfl
def iw71 : sm_W := iw70.set 51 (.inr (5, [.int 0, .int 0, .int 0, .int 0, .int 0, .int 0, .int 0, .int 0, .ref 152]))
theorem ifo71 : iw70.set 51 (.inr (5, [.int 0, .int 0, .int 0, .int 0, .int 0, .int 0, .int 0, .int 0, .ref 152])) = iw71 := rfl
theorem ile71 : iw71.length = 53 := rfl
theorem ige71_46 : iw71[46]? = some (.inl (4, 4, .inr (.inr (.inr (.inr (va_up (va_up (fun _ => none) 0 (some 147)) 1 (some 149))))))) := rfl
theorem ige71_51 : iw71[51]? = some (.inr (5, [.int 0, .int 0, .int 0, .int 0, .int 0, .int 0, .int 0, .int 0, .ref 152])) := rfl
def iw72 : sm_W := iw71.set 46 (.inl (4, 4, .inr (.inr (.inr (.inr (va_up (va_up (va_up (fun _ => none) 0 (some 147)) 1 (some 149)) 2 (some 151)))))))
theorem ifo72 : iw71.set 46 (.inl (4, 4, .inr (.inr (.inr (.inr (va_up (va_up (va_up (fun _ => none) 0 (some 147)) 1 (some 149)) 2 (some 151))))))) = iw72 := rfl
theorem ile72 : iw72.length = 53 := rfl
theorem ige72_45 : iw72[45]? = some (.inr (1, [.ref 146, .int 0])) := rfl
def iw73 : sm_W := iw72 ++ [.inr (5, sm_def 5)]
theorem ifo73 : iw72 ++ [.inr (5, sm_def 5)] = iw73 := rfl
theorem ile73 : iw73.length = 54 := rfl
def iw74 : sm_W := iw73 ++ [.inl (0, 4, .inl (fun _ => 0))]
theorem ifo74 : iw73 ++ [.inl (0, 4, .inl (fun _ => 0))] = iw74 := rfl
theorem ile74 : iw74.length = 55 := rfl
theorem ige74_53 : iw74[53]? = some (.inr (5, [.int 0, .int 0, .int 0, .int 0, .int 0, .int 0, .int 0, .int 0, .null])) := rfl
def iw75 : sm_W := iw74.set 53 (.inr (5, [.int 0, .int 0, .int 0, .int 0, .int 0, .int 0, .int 0, .int 0, .ref 154]))
theorem ifo75 : iw74.set 53 (.inr (5, [.int 0, .int 0, .int 0, .int 0, .int 0, .int 0, .int 0, .int 0, .ref 154])) = iw75 := rfl
theorem ile75 : iw75.length = 55 := rfl
theorem ige75_46 : iw75[46]? = some (.inl (4, 4, .inr (.inr (.inr (.inr (va_up (va_up (va_up (fun _ => none) 0 (some 147)) 1 (some 149)) 2 (some 151))))))) := rfl
theorem ige75_53 : iw75[53]? = some (.inr (5, [.int 0, .int 0, .int 0, .int 0, .int 0, .int 0, .int 0, .int 0, .ref 154])) := rfl
def iw76 : sm_W := iw75.set 46 (.inl (4, 4, .inr (.inr (.inr (.inr (va_up (va_up (va_up (va_up (fun _ => none) 0 (some 147)) 1 (some 149)) 2 (some 151)) 3 (some 153)))))))
theorem ifo76 : iw75.set 46 (.inl (4, 4, .inr (.inr (.inr (.inr (va_up (va_up (va_up (va_up (fun _ => none) 0 (some 147)) 1 (some 149)) 2 (some 151)) 3 (some 153))))))) = iw76 := rfl
theorem ile76 : iw76.length = 55 := rfl
theorem ige76_0 : iw76[0]? = some (.inr (6, [.ref 101, .ref 115, .ref 129, .ref 132, .null, .null, .int 0, .int 0, .int 0])) := rfl
def iw77 : sm_W := iw76.set 0 (.inr (6, [.ref 101, .ref 115, .ref 129, .ref 132, .ref 145, .null, .int 0, .int 0, .int 0]))
theorem ifo77 : iw76.set 0 (.inr (6, [.ref 101, .ref 115, .ref 129, .ref 132, .ref 145, .null, .int 0, .int 0, .int 0])) = iw77 := rfl
theorem ile77 : iw77.length = 55 := rfl
def iw78 : sm_W := iw77 ++ [.inr (2, sm_def 2)]
theorem ifo78 : iw77 ++ [.inr (2, sm_def 2)] = iw78 := rfl
theorem ile78 : iw78.length = 56 := rfl
theorem ige78_0 : iw78[0]? = some (.inr (6, [.ref 101, .ref 115, .ref 129, .ref 132, .ref 145, .null, .int 0, .int 0, .int 0])) := rfl
def iw79 : sm_W := iw78 ++ [.inr (4, sm_def 4)]
theorem ifo79 : iw78 ++ [.inr (4, sm_def 4)] = iw79 := rfl
theorem ile79 : iw79.length = 57 := rfl
def iw80 : sm_W := iw79 ++ [.inl (0, 8, .inl (fun _ => 0))]
theorem ifo80 : iw79 ++ [.inl (0, 8, .inl (fun _ => 0))] = iw80 := rfl
theorem ile80 : iw80.length = 58 := rfl
theorem ige80_56 : iw80[56]? = some (.inr (4, [.null, .null, .int 0])) := rfl
def iw81 : sm_W := iw80.set 56 (.inr (4, [.ref 157, .null, .int 0]))
theorem ifo81 : iw80.set 56 (.inr (4, [.ref 157, .null, .int 0])) = iw81 := rfl
theorem ile81 : iw81.length = 58 := rfl
def iw82 : sm_W := iw81 ++ [.inl (0, 8, .inl (fun _ => 0))]
theorem ifo82 : iw81 ++ [.inl (0, 8, .inl (fun _ => 0))] = iw82 := rfl
theorem ile82 : iw82.length = 59 := rfl
theorem ige82_56 : iw82[56]? = some (.inr (4, [.ref 157, .null, .int 0])) := rfl
def iw83 : sm_W := iw82.set 56 (.inr (4, [.ref 157, .ref 158, .int 0]))
theorem ifo83 : iw82.set 56 (.inr (4, [.ref 157, .ref 158, .int 0])) = iw83 := rfl
theorem ile83 : iw83.length = 59 := rfl
theorem ige83_55 : iw83[55]? = some (.inr (2, [.null, .null, .null, .int 0, .int 0, .int 0, .int 0, .null, .int 0, .int 0, .int 0])) := rfl
def iw84 : sm_W := iw83.set 55 (.inr (2, [.null, .null, .ref 156, .int 0, .int 0, .int 0, .int 0, .null, .int 0, .int 0, .int 0]))
theorem ifo84 : iw83.set 55 (.inr (2, [.null, .null, .ref 156, .int 0, .int 0, .int 0, .int 0, .null, .int 0, .int 0, .int 0])) = iw84 := rfl
theorem ile84 : iw84.length = 59 := rfl
theorem ige84_55 : iw84[55]? = some (.inr (2, [.null, .null, .ref 156, .int 0, .int 0, .int 0, .int 0, .null, .int 0, .int 0, .int 0])) := rfl
def iw85 : sm_W := iw84.set 55 (.inr (2, [.null, .null, .ref 156, .int 0, .int 0, .int 0, .int (-3), .null, .int 0, .int 0, .int 0]))
theorem ifo85 : iw84.set 55 (.inr (2, [.null, .null, .ref 156, .int 0, .int 0, .int 0, .int (-3), .null, .int 0, .int 0, .int 0])) = iw85 := rfl
theorem ile85 : iw85.length = 59 := rfl
theorem ige85_55 : iw85[55]? = some (.inr (2, [.null, .null, .ref 156, .int 0, .int 0, .int 0, .int (-3), .null, .int 0, .int 0, .int 0])) := rfl
def iw86 : sm_W := iw85.set 55 (.inr (2, [.ref 101, .null, .ref 156, .int 0, .int 0, .int 0, .int (-3), .null, .int 0, .int 0, .int 0]))
theorem ifo86 : iw85.set 55 (.inr (2, [.ref 101, .null, .ref 156, .int 0, .int 0, .int 0, .int (-3), .null, .int 0, .int 0, .int 0])) = iw86 := rfl
theorem ile86 : iw86.length = 59 := rfl
theorem ige86_55 : iw86[55]? = some (.inr (2, [.ref 101, .null, .ref 156, .int 0, .int 0, .int 0, .int (-3), .null, .int 0, .int 0, .int 0])) := rfl
def iw87 : sm_W := iw86.set 55 (.inr (2, [.ref 101, .ref 145, .ref 156, .int 0, .int 0, .int 0, .int (-3), .null, .int 0, .int 0, .int 0]))
theorem ifo87 : iw86.set 55 (.inr (2, [.ref 101, .ref 145, .ref 156, .int 0, .int 0, .int 0, .int (-3), .null, .int 0, .int 0, .int 0])) = iw87 := rfl
theorem ile87 : iw87.length = 59 := rfl
theorem ige87_45 : iw87[45]? = some (.inr (1, [.ref 146, .int 0])) := rfl
theorem ige87_46 : iw87[46]? = some (.inl (4, 4, .inr (.inr (.inr (.inr (va_up (va_up (va_up (va_up (fun _ => none) 0 (some 147)) 1 (some 149)) 2 (some 151)) 3 (some 153))))))) := rfl
theorem ige87_55 : iw87[55]? = some (.inr (2, [.ref 101, .ref 145, .ref 156, .int 0, .int 0, .int 0, .int (-3), .null, .int 0, .int 0, .int 0])) := rfl
def iw88 : sm_W := iw87.set 55 (.inr (2, [.ref 101, .ref 145, .ref 156, .int 0, .int 0, .int 0, .int (-3), .ref 147, .int 0, .int 0, .int 0]))
theorem ifo88 : iw87.set 55 (.inr (2, [.ref 101, .ref 145, .ref 156, .int 0, .int 0, .int 0, .int (-3), .ref 147, .int 0, .int 0, .int 0])) = iw88 := rfl
theorem ile88 : iw88.length = 59 := rfl
theorem ige88_0 : iw88[0]? = some (.inr (6, [.ref 101, .ref 115, .ref 129, .ref 132, .ref 145, .null, .int 0, .int 0, .int 0])) := rfl
def iw89 : sm_W := iw88.set 0 (.inr (6, [.ref 101, .ref 115, .ref 129, .ref 132, .ref 145, .ref 155, .int 0, .int 0, .int 0]))
theorem ifo89 : iw88.set 0 (.inr (6, [.ref 101, .ref 115, .ref 129, .ref 132, .ref 145, .ref 155, .int 0, .int 0, .int 0])) = iw89 := rfl
theorem ile89 : iw89.length = 59 := rfl
theorem ige89_0 : iw89[0]? = some (.inr (6, [.ref 101, .ref 115, .ref 129, .ref 132, .ref 145, .ref 155, .int 0, .int 0, .int 0])) := rfl
def iw90 : sm_W := iw89.set 0 (.inr (6, [.ref 101, .ref 115, .ref 129, .ref 132, .ref 145, .ref 155, .int (-3), .int 0, .int 0]))
theorem ifo90 : iw89.set 0 (.inr (6, [.ref 101, .ref 115, .ref 129, .ref 132, .ref 145, .ref 155, .int (-3), .int 0, .int 0])) = iw90 := rfl
theorem ile90 : iw90.length = 59 := rfl
def iw91 : sm_W := iw90 ++ [.inr (7, sm_def 7)]
theorem ifo91 : iw90 ++ [.inr (7, sm_def 7)] = iw91 := rfl
theorem ile91 : iw91.length = 60 := rfl
def iw92 : sm_W := iw91 ++ [.inl (1, 94, .inr (.inl (fun _ => 0)))]
theorem ifo92 : iw91 ++ [.inl (1, 94, .inr (.inl (fun _ => 0)))] = iw92 := rfl
theorem ile92 : iw92.length = 61 := rfl
theorem ige92_59 : iw92[59]? = some (.inr (7, [.null, .null, .null, .null, .null, .int 0, .null, .null, .null, .null, .null, .null, .int 0, .int 0, .int 0, .int 0, .int 0, .int 0, .int 0, .int 0, .int 0, .null, .null, .null, .int 0, .int 0])) := rfl
def iw93 : sm_W := iw92.set 59 (.inr (7, [.ref 160, .null, .null, .null, .null, .int 0, .null, .null, .null, .null, .null, .null, .int 0, .int 0, .int 0, .int 0, .int 0, .int 0, .int 0, .int 0, .int 0, .null, .null, .null, .int 0, .int 0]))
theorem ifo93 : iw92.set 59 (.inr (7, [.ref 160, .null, .null, .null, .null, .int 0, .null, .null, .null, .null, .null, .null, .int 0, .int 0, .int 0, .int 0, .int 0, .int 0, .int 0, .int 0, .int 0, .null, .null, .null, .int 0, .int 0])) = iw93 := rfl
theorem ile93 : iw93.length = 61 := rfl
def iw94 : sm_W := iw93 ++ [.inl (1, 94, .inr (.inl (fun _ => 0)))]
theorem ifo94 : iw93 ++ [.inl (1, 94, .inr (.inl (fun _ => 0)))] = iw94 := rfl
theorem ile94 : iw94.length = 62 := rfl
theorem ige94_59 : iw94[59]? = some (.inr (7, [.ref 160, .null, .null, .null, .null, .int 0, .null, .null, .null, .null, .null, .null, .int 0, .int 0, .int 0, .int 0, .int 0, .int 0, .int 0, .int 0, .int 0, .null, .null, .null, .int 0, .int 0])) := rfl
def iw95 : sm_W := iw94.set 59 (.inr (7, [.ref 160, .ref 161, .null, .null, .null, .int 0, .null, .null, .null, .null, .null, .null, .int 0, .int 0, .int 0, .int 0, .int 0, .int 0, .int 0, .int 0, .int 0, .null, .null, .null, .int 0, .int 0]))
theorem ifo95 : iw94.set 59 (.inr (7, [.ref 160, .ref 161, .null, .null, .null, .int 0, .null, .null, .null, .null, .null, .null, .int 0, .int 0, .int 0, .int 0, .int 0, .int 0, .int 0, .int 0, .int 0, .null, .null, .null, .int 0, .int 0])) = iw95 := rfl
theorem ile95 : iw95.length = 62 := rfl
def iw96 : sm_W := iw95 ++ [.inl (0, 160, .inl (fun _ => 0))]
theorem ifo96 : iw95 ++ [.inl (0, 160, .inl (fun _ => 0))] = iw96 := rfl
theorem ile96 : iw96.length = 63 := rfl
theorem ige96_59 : iw96[59]? = some (.inr (7, [.ref 160, .ref 161, .null, .null, .null, .int 0, .null, .null, .null, .null, .null, .null, .int 0, .int 0, .int 0, .int 0, .int 0, .int 0, .int 0, .int 0, .int 0, .null, .null, .null, .int 0, .int 0])) := rfl
def iw97 : sm_W := iw96.set 59 (.inr (7, [.ref 160, .ref 161, .ref 162, .null, .null, .int 0, .null, .null, .null, .null, .null, .null, .int 0, .int 0, .int 0, .int 0, .int 0, .int 0, .int 0, .int 0, .int 0, .null, .null, .null, .int 0, .int 0]))
theorem ifo97 : iw96.set 59 (.inr (7, [.ref 160, .ref 161, .ref 162, .null, .null, .int 0, .null, .null, .null, .null, .null, .null, .int 0, .int 0, .int 0, .int 0, .int 0, .int 0, .int 0, .int 0, .int 0, .null, .null, .null, .int 0, .int 0])) = iw97 := rfl
theorem ile97 : iw97.length = 63 := rfl
def iw98 : sm_W := iw97 ++ [.inl (0, 160, .inl (fun _ => 0))]
theorem ifo98 : iw97 ++ [.inl (0, 160, .inl (fun _ => 0))] = iw98 := rfl
theorem ile98 : iw98.length = 64 := rfl
theorem ige98_59 : iw98[59]? = some (.inr (7, [.ref 160, .ref 161, .ref 162, .null, .null, .int 0, .null, .null, .null, .null, .null, .null, .int 0, .int 0, .int 0, .int 0, .int 0, .int 0, .int 0, .int 0, .int 0, .null, .null, .null, .int 0, .int 0])) := rfl
def iw99 : sm_W := iw98.set 59 (.inr (7, [.ref 160, .ref 161, .ref 162, .ref 163, .null, .int 0, .null, .null, .null, .null, .null, .null, .int 0, .int 0, .int 0, .int 0, .int 0, .int 0, .int 0, .int 0, .int 0, .null, .null, .null, .int 0, .int 0]))
theorem ifo99 : iw98.set 59 (.inr (7, [.ref 160, .ref 161, .ref 162, .ref 163, .null, .int 0, .null, .null, .null, .null, .null, .null, .int 0, .int 0, .int 0, .int 0, .int 0, .int 0, .int 0, .int 0, .int 0, .null, .null, .null, .int 0, .int 0])) = iw99 := rfl
theorem ile99 : iw99.length = 64 := rfl
def iw100 : sm_W := iw99 ++ [.inl (0, 5, .inl (fun _ => 0))]
theorem ifo100 : iw99 ++ [.inl (0, 5, .inl (fun _ => 0))] = iw100 := rfl
theorem ile100 : iw100.length = 65 := rfl
theorem ige100_59 : iw100[59]? = some (.inr (7, [.ref 160, .ref 161, .ref 162, .ref 163, .null, .int 0, .null, .null, .null, .null, .null, .null, .int 0, .int 0, .int 0, .int 0, .int 0, .int 0, .int 0, .int 0, .int 0, .null, .null, .null, .int 0, .int 0])) := rfl
def iw101 : sm_W := iw100.set 59 (.inr (7, [.ref 160, .ref 161, .ref 162, .ref 163, .ref 164, .int 0, .null, .null, .null, .null, .null, .null, .int 0, .int 0, .int 0, .int 0, .int 0, .int 0, .int 0, .int 0, .int 0, .null, .null, .null, .int 0, .int 0]))
theorem ifo101 : iw100.set 59 (.inr (7, [.ref 160, .ref 161, .ref 162, .ref 163, .ref 164, .int 0, .null, .null, .null, .null, .null, .null, .int 0, .int 0, .int 0, .int 0, .int 0, .int 0, .int 0, .int 0, .int 0, .null, .null, .null, .int 0, .int 0])) = iw101 := rfl
theorem ile101 : iw101.length = 65 := rfl
theorem ige101_59 : iw101[59]? = some (.inr (7, [.ref 160, .ref 161, .ref 162, .ref 163, .ref 164, .int 0, .null, .null, .null, .null, .null, .null, .int 0, .int 0, .int 0, .int 0, .int 0, .int 0, .int 0, .int 0, .int 0, .null, .null, .null, .int 0, .int 0])) := rfl
def iw102 : sm_W := iw101.set 59 (.inr (7, [.ref 160, .ref 161, .ref 162, .ref 163, .ref 164, .int 0, .null, .null, .null, .null, .null, .null, .int 0, .int 0, .int 0, .int 0, .int 0, .int 0, .int 0, .int 0, .int 0, .null, .null, .null, .int 0, .int 0]))
theorem ifo102 : iw101.set 59 (.inr (7, [.ref 160, .ref 161, .ref 162, .ref 163, .ref 164, .int 0, .null, .null, .null, .null, .null, .null, .int 0, .int 0, .int 0, .int 0, .int 0, .int 0, .int 0, .int 0, .int 0, .null, .null, .null, .int 0, .int 0])) = iw102 := rfl
theorem ile102 : iw102.length = 65 := rfl
def iw103 : sm_W := iw102 ++ [.inl (0, 4, .inl (fun _ => 0))]
theorem ifo103 : iw102 ++ [.inl (0, 4, .inl (fun _ => 0))] = iw103 := rfl
theorem ile103 : iw103.length = 66 := rfl
theorem ige103_59 : iw103[59]? = some (.inr (7, [.ref 160, .ref 161, .ref 162, .ref 163, .ref 164, .int 0, .null, .null, .null, .null, .null, .null, .int 0, .int 0, .int 0, .int 0, .int 0, .int 0, .int 0, .int 0, .int 0, .null, .null, .null, .int 0, .int 0])) := rfl
def iw104 : sm_W := iw103.set 59 (.inr (7, [.ref 160, .ref 161, .ref 162, .ref 163, .ref 164, .int 0, .ref 165, .null, .null, .null, .null, .null, .int 0, .int 0, .int 0, .int 0, .int 0, .int 0, .int 0, .int 0, .int 0, .null, .null, .null, .int 0, .int 0]))
theorem ifo104 : iw103.set 59 (.inr (7, [.ref 160, .ref 161, .ref 162, .ref 163, .ref 164, .int 0, .ref 165, .null, .null, .null, .null, .null, .int 0, .int 0, .int 0, .int 0, .int 0, .int 0, .int 0, .int 0, .int 0, .null, .null, .null, .int 0, .int 0])) = iw104 := rfl
theorem ile104 : iw104.length = 66 := rfl
def iw105 : sm_W := iw104 ++ [.inl (0, 4, .inl (fun _ => 0))]
theorem ifo105 : iw104 ++ [.inl (0, 4, .inl (fun _ => 0))] = iw105 := rfl
theorem ile105 : iw105.length = 67 := rfl
theorem ige105_59 : iw105[59]? = some (.inr (7, [.ref 160, .ref 161, .ref 162, .ref 163, .ref 164, .int 0, .ref 165, .null, .null, .null, .null, .null, .int 0, .int 0, .int 0, .int 0, .int 0, .int 0, .int 0, .int 0, .int 0, .null, .null, .null, .int 0, .int 0])) := rfl
def iw106 : sm_W := iw105.set 59 (.inr (7, [.ref 160, .ref 161, .ref 162, .ref 163, .ref 164, .int 0, .ref 165, .ref 166, .null, .null, .null, .null, .int 0, .int 0, .int 0, .int 0, .int 0, .int 0, .int 0, .int 0, .int 0, .null, .null, .null, .int 0, .int 0]))
theorem ifo106 : iw105.set 59 (.inr (7, [.ref 160, .ref 161, .ref 162, .ref 163, .ref 164, .int 0, .ref 165, .ref 166, .null, .null, .null, .null, .int 0, .int 0, .int 0, .int 0, .int 0, .int 0, .int 0, .int 0, .int 0, .null, .null, .null, .int 0, .int 0])) = iw106 := rfl
theorem ile106 : iw106.length = 67 := rfl
def iw107 : sm_W := iw106 ++ [.inl (0, 4, .inl (fun _ => 0))]
theorem ifo107 : iw106 ++ [.inl (0, 4, .inl (fun _ => 0))] = iw107 := rfl
theorem ile107 : iw107.length = 68 := rfl
theorem ige107_59 : iw107[59]? = some (.inr (7, [.ref 160, .ref 161, .ref 162, .ref 163, .ref 164, .int 0, .ref 165, .ref 166, .null, .null, .null, .null, .int 0, .int 0, .int 0, .int 0, .int 0, .int 0, .int 0, .int 0, .int 0, .null, .null, .null, .int 0, .int 0])) := rfl
def iw108 : sm_W := iw107.set 59 (.inr (7, [.ref 160, .ref 161, .ref 162, .ref 163, .ref 164, .int 0, .ref 165, .ref 166, .ref 167, .null, .null, .null, .int 0, .int 0, .int 0, .int 0, .int 0, .int 0, .int 0, .int 0, .int 0, .null, .null, .null, .int 0, .int 0]))
theorem ifo108 : iw107.set 59 (.inr (7, [.ref 160, .ref 161, .ref 162, .ref 163, .ref 164, .int 0, .ref 165, .ref 166, .ref 167, .null, .null, .null, .int 0, .int 0, .int 0, .int 0, .int 0, .int 0, .int 0, .int 0, .int 0, .null, .null, .null, .int 0, .int 0])) = iw108 := rfl
theorem ile108 : iw108.length = 68 := rfl
def iw109 : sm_W := iw108 ++ [.inl (0, 4, .inl (fun _ => 0))]
theorem ifo109 : iw108 ++ [.inl (0, 4, .inl (fun _ => 0))] = iw109 := rfl
theorem ile109 : iw109.length = 69 := rfl
theorem ige109_59 : iw109[59]? = some (.inr (7, [.ref 160, .ref 161, .ref 162, .ref 163, .ref 164, .int 0, .ref 165, .ref 166, .ref 167, .null, .null, .null, .int 0, .int 0, .int 0, .int 0, .int 0, .int 0, .int 0, .int 0, .int 0, .null, .null, .null, .int 0, .int 0])) := rfl
def iw110 : sm_W := iw109.set 59 (.inr (7, [.ref 160, .ref 161, .ref 162, .ref 163, .ref 164, .int 0, .ref 165, .ref 166, .ref 167, .ref 168, .null, .null, .int 0, .int 0, .int 0, .int 0, .int 0, .int 0, .int 0, .int 0, .int 0, .null, .null, .null, .int 0, .int 0]))
theorem ifo110 : iw109.set 59 (.inr (7, [.ref 160, .ref 161, .ref 162, .ref 163, .ref 164, .int 0, .ref 165, .ref 166, .ref 167, .ref 168, .null, .null, .int 0, .int 0, .int 0, .int 0, .int 0, .int 0, .int 0, .int 0, .int 0, .null, .null, .null, .int 0, .int 0])) = iw110 := rfl
theorem ile110 : iw110.length = 69 := rfl
def iw111 : sm_W := iw110 ++ [.inl (0, 4, .inl (fun _ => 0))]
theorem ifo111 : iw110 ++ [.inl (0, 4, .inl (fun _ => 0))] = iw111 := rfl
theorem ile111 : iw111.length = 70 := rfl
theorem ige111_59 : iw111[59]? = some (.inr (7, [.ref 160, .ref 161, .ref 162, .ref 163, .ref 164, .int 0, .ref 165, .ref 166, .ref 167, .ref 168, .null, .null, .int 0, .int 0, .int 0, .int 0, .int 0, .int 0, .int 0, .int 0, .int 0, .null, .null, .null, .int 0, .int 0])) := rfl
def iw112 : sm_W := iw111.set 59 (.inr (7, [.ref 160, .ref 161, .ref 162, .ref 163, .ref 164, .int 0, .ref 165, .ref 166, .ref 167, .ref 168, .ref 169, .null, .int 0, .int 0, .int 0, .int 0, .int 0, .int 0, .int 0, .int 0, .int 0, .null, .null, .null, .int 0, .int 0]))
theorem ifo112 : iw111.set 59 (.inr (7, [.ref 160, .ref 161, .ref 162, .ref 163, .ref 164, .int 0, .ref 165, .ref 166, .ref 167, .ref 168, .ref 169, .null, .int 0, .int 0, .int 0, .int 0, .int 0, .int 0, .int 0, .int 0, .int 0, .null, .null, .null, .int 0, .int 0])) = iw112 := rfl
theorem ile112 : iw112.length = 70 := rfl
def iw113 : sm_W := iw112 ++ [.inl (1, 16, .inr (.inl (fun _ => 0)))]
theorem ifo113 : iw112 ++ [.inl (1, 16, .inr (.inl (fun _ => 0)))] = iw113 := rfl
theorem ile113 : iw113.length = 71 := rfl
theorem ige113_59 : iw113[59]? = some (.inr (7, [.ref 160, .ref 161, .ref 162, .ref 163, .ref 164, .int 0, .ref 165, .ref 166, .ref 167, .ref 168, .ref 169, .null, .int 0, .int 0, .int 0, .int 0, .int 0, .int 0, .int 0, .int 0, .int 0, .null, .null, .null, .int 0, .int 0])) := rfl
def iw114 : sm_W := iw113.set 59 (.inr (7, [.ref 160, .ref 161, .ref 162, .ref 163, .ref 164, .int 0, .ref 165, .ref 166, .ref 167, .ref 168, .ref 169, .ref 170, .int 0, .int 0, .int 0, .int 0, .int 0, .int 0, .int 0, .int 0, .int 0, .null, .null, .null, .int 0, .int 0]))
theorem ifo114 : iw113.set 59 (.inr (7, [.ref 160, .ref 161, .ref 162, .ref 163, .ref 164, .int 0, .ref 165, .ref 166, .ref 167, .ref 168, .ref 169, .ref 170, .int 0, .int 0, .int 0, .int 0, .int 0, .int 0, .int 0, .int 0, .int 0, .null, .null, .null, .int 0, .int 0])) = iw114 := rfl
theorem ile114 : iw114.length = 71 := rfl
theorem ige114_59 : iw114[59]? = some (.inr (7, [.ref 160, .ref 161, .ref 162, .ref 163, .ref 164, .int 0, .ref 165, .ref 166, .ref 167, .ref 168, .ref 169, .ref 170, .int 0, .int 0, .int 0, .int 0, .int 0, .int 0, .int 0, .int 0, .int 0, .null, .null, .null, .int 0, .int 0])) := rfl
def iw115 : sm_W := iw114.set 59 (.inr (7, [.ref 160, .ref 161, .ref 162, .ref 163, .ref 164, .int 0, .ref 165, .ref 166, .ref 167, .ref 168, .ref 169, .ref 170, .int (-3), .int 0, .int 0, .int 0, .int 0, .int 0, .int 0, .int 0, .int 0, .null, .null, .null, .int 0, .int 0]))
theorem ifo115 : iw114.set 59 (.inr (7, [.ref 160, .ref 161, .ref 162, .ref 163, .ref 164, .int 0, .ref 165, .ref 166, .ref 167, .ref 168, .ref 169, .ref 170, .int (-3), .int 0, .int 0, .int 0, .int 0, .int 0, .int 0, .int 0, .int 0, .null, .null, .null, .int 0, .int 0])) = iw115 := rfl
theorem ile115 : iw115.length = 71 := rfl
theorem ige115_59 : iw115[59]? = some (.inr (7, [.ref 160, .ref 161, .ref 162, .ref 163, .ref 164, .int 0, .ref 165, .ref 166, .ref 167, .ref 168, .ref 169, .ref 170, .int (-3), .int 0, .int 0, .int 0, .int 0, .int 0, .int 0, .int 0, .int 0, .null, .null, .null, .int 0, .int 0])) := rfl
def iw116 : sm_W := iw115.set 59 (.inr (7, [.ref 160, .ref 161, .ref 162, .ref 163, .ref 164, .int 0, .ref 165, .ref 166, .ref 167, .ref 168, .ref 169, .ref 170, .int (-3), .int (-3), .int 0, .int 0, .int 0, .int 0, .int 0, .int 0, .int 0, .null, .null, .null, .int 0, .int 0]))
theorem ifo116 : iw115.set 59 (.inr (7, [.ref 160, .ref 161, .ref 162, .ref 163, .ref 164, .int 0, .ref 165, .ref 166, .ref 167, .ref 168, .ref 169, .ref 170, .int (-3), .int (-3), .int 0, .int 0, .int 0, .int 0, .int 0, .int 0, .int 0, .null, .null, .null, .int 0, .int 0])) = iw116 := rfl
theorem ile116 : iw116.length = 71 := rfl
theorem ige116_59 : iw116[59]? = some (.inr (7, [.ref 160, .ref 161, .ref 162, .ref 163, .ref 164, .int 0, .ref 165, .ref 166, .ref 167, .ref 168, .ref 169, .ref 170, .int (-3), .int (-3), .int 0, .int 0, .int 0, .int 0, .int 0, .int 0, .int 0, .null, .null, .null, .int 0, .int 0])) := rfl
def iw117 : sm_W := iw116.set 59 (.inr (7, [.ref 160, .ref 161, .ref 162, .ref 163, .ref 164, .int 0, .ref 165, .ref 166, .ref 167, .ref 168, .ref 169, .ref 170, .int (-3), .int (-3), .int (-3), .int 0, .int 0, .int 0, .int 0, .int 0, .int 0, .null, .null, .null, .int 0, .int 0]))
theorem ifo117 : iw116.set 59 (.inr (7, [.ref 160, .ref 161, .ref 162, .ref 163, .ref 164, .int 0, .ref 165, .ref 166, .ref 167, .ref 168, .ref 169, .ref 170, .int (-3), .int (-3), .int (-3), .int 0, .int 0, .int 0, .int 0, .int 0, .int 0, .null, .null, .null, .int 0, .int 0])) = iw117 := rfl
theorem ile117 : iw117.length = 71 := rfl
theorem ige117_59 : iw117[59]? = some (.inr (7, [.ref 160, .ref 161, .ref 162, .ref 163, .ref 164, .int 0, .ref 165, .ref 166, .ref 167, .ref 168, .ref 169, .ref 170, .int (-3), .int (-3), .int (-3), .int 0, .int 0, .int 0, .int 0, .int 0, .int 0, .null, .null, .null, .int 0, .int 0])) := rfl
def iw118 : sm_W := iw117.set 59 (.inr (7, [.ref 160, .ref 161, .ref 162, .ref 163, .ref 164, .int 0, .ref 165, .ref 166, .ref 167, .ref 168, .ref 169, .ref 170, .int (-3), .int (-3), .int (-3), .int (-3), .int 0, .int 0, .int 0, .int 0, .int 0, .null, .null, .null, .int 0, .int 0]))
theorem ifo118 : iw117.set 59 (.inr (7, [.ref 160, .ref 161, .ref 162, .ref 163, .ref 164, .int 0, .ref 165, .ref 166, .ref 167, .ref 168, .ref 169, .ref 170, .int (-3), .int (-3), .int (-3), .int (-3), .int 0, .int 0, .int 0, .int 0, .int 0, .null, .null, .null, .int 0, .int 0])) = iw118 := rfl
theorem ile118 : iw118.length = 71 := rfl
theorem ige118_59 : iw118[59]? = some (.inr (7, [.ref 160, .ref 161, .ref 162, .ref 163, .ref 164, .int 0, .ref 165, .ref 166, .ref 167, .ref 168, .ref 169, .ref 170, .int (-3), .int (-3), .int (-3), .int (-3), .int 0, .int 0, .int 0, .int 0, .int 0, .null, .null, .null, .int 0, .int 0])) := rfl
def iw119 : sm_W := iw118.set 59 (.inr (7, [.ref 160, .ref 161, .ref 162, .ref 163, .ref 164, .int 0, .ref 165, .ref 166, .ref 167, .ref 168, .ref 169, .ref 170, .int (-3), .int (-3), .int (-3), .int (-3), .int 0, .int 0, .int 0, .int 0, .int 0, .null, .null, .null, .int 0, .int 0]))
theorem ifo119 : iw118.set 59 (.inr (7, [.ref 160, .ref 161, .ref 162, .ref 163, .ref 164, .int 0, .ref 165, .ref 166, .ref 167, .ref 168, .ref 169, .ref 170, .int (-3), .int (-3), .int (-3), .int (-3), .int 0, .int 0, .int 0, .int 0, .int 0, .null, .null, .null, .int 0, .int 0])) = iw119 := rfl
theorem ile119 : iw119.length = 71 := rfl
theorem ige119_59 : iw119[59]? = some (.inr (7, [.ref 160, .ref 161, .ref 162, .ref 163, .ref 164, .int 0, .ref 165, .ref 166, .ref 167, .ref 168, .ref 169, .ref 170, .int (-3), .int (-3), .int (-3), .int (-3), .int 0, .int 0, .int 0, .int 0, .int 0, .null, .null, .null, .int 0, .int 0])) := rfl
def iw120 : sm_W := iw119.set 59 (.inr (7, [.ref 160, .ref 161, .ref 162, .ref 163, .ref 164, .int 0, .ref 165, .ref 166, .ref 167, .ref 168, .ref 169, .ref 170, .int (-3), .int (-3), .int (-3), .int (-3), .int 0, .int 0, .int 0, .int 0, .int 0, .null, .null, .null, .int 0, .int 0]))
theorem ifo120 : iw119.set 59 (.inr (7, [.ref 160, .ref 161, .ref 162, .ref 163, .ref 164, .int 0, .ref 165, .ref 166, .ref 167, .ref 168, .ref 169, .ref 170, .int (-3), .int (-3), .int (-3), .int (-3), .int 0, .int 0, .int 0, .int 0, .int 0, .null, .null, .null, .int 0, .int 0])) = iw120 := rfl
theorem ile120 : iw120.length = 71 := rfl
theorem ige120_59 : iw120[59]? = some (.inr (7, [.ref 160, .ref 161, .ref 162, .ref 163, .ref 164, .int 0, .ref 165, .ref 166, .ref 167, .ref 168, .ref 169, .ref 170, .int (-3), .int (-3), .int (-3), .int (-3), .int 0, .int 0, .int 0, .int 0, .int 0, .null, .null, .null, .int 0, .int 0])) := rfl
def iw121 : sm_W := iw120.set 59 (.inr (7, [.ref 160, .ref 161, .ref 162, .ref 163, .ref 164, .int 0, .ref 165, .ref 166, .ref 167, .ref 168, .ref 169, .ref 170, .int (-3), .int (-3), .int (-3), .int (-3), .int 0, .int 0, .int 0, .int 0, .int 0, .null, .null, .null, .int 0, .int 0]))
theorem ifo121 : iw120.set 59 (.inr (7, [.ref 160, .ref 161, .ref 162, .ref 163, .ref 164, .int 0, .ref 165, .ref 166, .ref 167, .ref 168, .ref 169, .ref 170, .int (-3), .int (-3), .int (-3), .int (-3), .int 0, .int 0, .int 0, .int 0, .int 0, .null, .null, .null, .int 0, .int 0])) = iw121 := rfl
theorem ile121 : iw121.length = 71 := rfl
theorem ige121_59 : iw121[59]? = some (.inr (7, [.ref 160, .ref 161, .ref 162, .ref 163, .ref 164, .int 0, .ref 165, .ref 166, .ref 167, .ref 168, .ref 169, .ref 170, .int (-3), .int (-3), .int (-3), .int (-3), .int 0, .int 0, .int 0, .int 0, .int 0, .null, .null, .null, .int 0, .int 0])) := rfl
def iw122 : sm_W := iw121.set 59 (.inr (7, [.ref 160, .ref 161, .ref 162, .ref 163, .ref 164, .int 0, .ref 165, .ref 166, .ref 167, .ref 168, .ref 169, .ref 170, .int (-3), .int (-3), .int (-3), .int (-3), .int 0, .int 0, .int 0, .int 0, .int 0, .null, .null, .null, .int 0, .int 0]))
theorem ifo122 : iw121.set 59 (.inr (7, [.ref 160, .ref 161, .ref 162, .ref 163, .ref 164, .int 0, .ref 165, .ref 166, .ref 167, .ref 168, .ref 169, .ref 170, .int (-3), .int (-3), .int (-3), .int (-3), .int 0, .int 0, .int 0, .int 0, .int 0, .null, .null, .null, .int 0, .int 0])) = iw122 := rfl
theorem ile122 : iw122.length = 71 := rfl
theorem ige122_59 : iw122[59]? = some (.inr (7, [.ref 160, .ref 161, .ref 162, .ref 163, .ref 164, .int 0, .ref 165, .ref 166, .ref 167, .ref 168, .ref 169, .ref 170, .int (-3), .int (-3), .int (-3), .int (-3), .int 0, .int 0, .int 0, .int 0, .int 0, .null, .null, .null, .int 0, .int 0])) := rfl
def iw123 : sm_W := iw122.set 59 (.inr (7, [.ref 160, .ref 161, .ref 162, .ref 163, .ref 164, .int 0, .ref 165, .ref 166, .ref 167, .ref 168, .ref 169, .ref 170, .int (-3), .int (-3), .int (-3), .int (-3), .int 0, .int 0, .int 0, .int 0, .int 0, .null, .null, .null, .int 0, .int 0]))
theorem ifo123 : iw122.set 59 (.inr (7, [.ref 160, .ref 161, .ref 162, .ref 163, .ref 164, .int 0, .ref 165, .ref 166, .ref 167, .ref 168, .ref 169, .ref 170, .int (-3), .int (-3), .int (-3), .int (-3), .int 0, .int 0, .int 0, .int 0, .int 0, .null, .null, .null, .int 0, .int 0])) = iw123 := rfl
theorem ile123 : iw123.length = 71 := rfl
def iw124 : sm_W := iw123 ++ [.inl (1, 8, .inr (.inl (fun _ => 0)))]
theorem ifo124 : iw123 ++ [.inl (1, 8, .inr (.inl (fun _ => 0)))] = iw124 := rfl
theorem ile124 : iw124.length = 72 := rfl
theorem ige124_59 : iw124[59]? = some (.inr (7, [.ref 160, .ref 161, .ref 162, .ref 163, .ref 164, .int 0, .ref 165, .ref 166, .ref 167, .ref 168, .ref 169, .ref 170, .int (-3), .int (-3), .int (-3), .int (-3), .int 0, .int 0, .int 0, .int 0, .int 0, .null, .null, .null, .int 0, .int 0])) := rfl
def iw125 : sm_W := iw124.set 59 (.inr (7, [.ref 160, .ref 161, .ref 162, .ref 163, .ref 164, .int 0, .ref 165, .ref 166, .ref 167, .ref 168, .ref 169, .ref 170, .int (-3), .int (-3), .int (-3), .int (-3), .int 0, .int 0, .int 0, .int 0, .int 0, .ref 171, .null, .null, .int 0, .int 0]))
theorem ifo125 : iw124.set 59 (.inr (7, [.ref 160, .ref 161, .ref 162, .ref 163, .ref 164, .int 0, .ref 165, .ref 166, .ref 167, .ref 168, .ref 169, .ref 170, .int (-3), .int (-3), .int (-3), .int (-3), .int 0, .int 0, .int 0, .int 0, .int 0, .ref 171, .null, .null, .int 0, .int 0])) = iw125 := rfl
theorem ile125 : iw125.length = 72 := rfl
def iw126 : sm_W := iw125 ++ [.inl (1, 100, .inr (.inl (fun _ => 0)))]
theorem ifo126 : iw125 ++ [.inl (1, 100, .inr (.inl (fun _ => 0)))] = iw126 := rfl
theorem ile126 : iw126.length = 73 := rfl
theorem ige126_59 : iw126[59]? = some (.inr (7, [.ref 160, .ref 161, .ref 162, .ref 163, .ref 164, .int 0, .ref 165, .ref 166, .ref 167, .ref 168, .ref 169, .ref 170, .int (-3), .int (-3), .int (-3), .int (-3), .int 0, .int 0, .int 0, .int 0, .int 0, .ref 171, .null, .null, .int 0, .int 0])) := rfl
def iw127 : sm_W := iw126.set 59 (.inr (7, [.ref 160, .ref 161, .ref 162, .ref 163, .ref 164, .int 0, .ref 165, .ref 166, .ref 167, .ref 168, .ref 169, .ref 170, .int (-3), .int (-3), .int (-3), .int (-3), .int 0, .int 0, .int 0, .int 0, .int 0, .ref 171, .ref 172, .null, .int 0, .int 0]))
theorem ifo127 : iw126.set 59 (.inr (7, [.ref 160, .ref 161, .ref 162, .ref 163, .ref 164, .int 0, .ref 165, .ref 166, .ref 167, .ref 168, .ref 169, .ref 170, .int (-3), .int (-3), .int (-3), .int (-3), .int 0, .int 0, .int 0, .int 0, .int 0, .ref 171, .ref 172, .null, .int 0, .int 0])) = iw127 := rfl
theorem ile127 : iw127.length = 73 := rfl
def iw128 : sm_W := iw127 ++ [.inl (1, 10, .inr (.inl (fun _ => 0)))]
theorem ifo128 : iw127 ++ [.inl (1, 10, .inr (.inl (fun _ => 0)))] = iw128 := rfl
theorem ile128 : iw128.length = 74 := rfl
theorem ige128_59 : iw128[59]? = some (.inr (7, [.ref 160, .ref 161, .ref 162, .ref 163, .ref 164, .int 0, .ref 165, .ref 166, .ref 167, .ref 168, .ref 169, .ref 170, .int (-3), .int (-3), .int (-3), .int (-3), .int 0, .int 0, .int 0, .int 0, .int 0, .ref 171, .ref 172, .null, .int 0, .int 0])) := rfl
def iw129 : sm_W := iw128.set 59 (.inr (7, [.ref 160, .ref 161, .ref 162, .ref 163, .ref 164, .int 0, .ref 165, .ref 166, .ref 167, .ref 168, .ref 169, .ref 170, .int (-3), .int (-3), .int (-3), .int (-3), .int 0, .int 0, .int 0, .int 0, .int 0, .ref 171, .ref 172, .ref 173, .int 0, .int 0]))
theorem ifo129 : iw128.set 59 (.inr (7, [.ref 160, .ref 161, .ref 162, .ref 163, .ref 164, .int 0, .ref 165, .ref 166, .ref 167, .ref 168, .ref 169, .ref 170, .int (-3), .int (-3), .int (-3), .int (-3), .int 0, .int 0, .int 0, .int 0, .int 0, .ref 171, .ref 172, .ref 173, .int 0, .int 0])) = iw129 := rfl
theorem ile129 : iw129.length = 74 := rfl
theorem ige129_59 : iw129[59]? = some (.inr (7, [.ref 160, .ref 161, .ref 162, .ref 163, .ref 164, .int 0, .ref 165, .ref 166, .ref 167, .ref 168, .ref 169, .ref 170, .int (-3), .int (-3), .int (-3), .int (-3), .int 0, .int 0, .int 0, .int 0, .int 0, .ref 171, .ref 172, .ref 173, .int 0, .int 0])) := rfl
def iw130 : sm_W := iw129.set 59 (.inr (7, [.ref 160, .ref 161, .ref 162, .ref 163, .ref 164, .int 0, .ref 165, .ref 166, .ref 167, .ref 168, .ref 169, .ref 170, .int (-3), .int (-3), .int (-3), .int (-3), .int 0, .int 0, .int 0, .int 0, .int 0, .ref 171, .ref 172, .ref 173, .int 0, .int 0]))
theorem ifo130 : iw129.set 59 (.inr (7, [.ref 160, .ref 161, .ref 162, .ref 163, .ref 164, .int 0, .ref 165, .ref 166, .ref 167, .ref 168, .ref 169, .ref 170, .int (-3), .int (-3), .int (-3), .int (-3), .int 0, .int 0, .int 0, .int 0, .int 0, .ref 171, .ref 172, .ref 173, .int 0, .int 0])) = iw130 := rfl
theorem ile130 : iw130.length = 74 := rfl
theorem ige130_59 : iw130[59]? = some (.inr (7, [.ref 160, .ref 161, .ref 162, .ref 163, .ref 164, .int 0, .ref 165, .ref 166, .ref 167, .ref 168, .ref 169, .ref 170, .int (-3), .int (-3), .int (-3), .int (-3), .int 0, .int 0, .int 0, .int 0, .int 0, .ref 171, .ref 172, .ref 173, .int 0, .int 0])) := rfl
def iw131 : sm_W := iw130.set 59 (.inr (7, [.ref 160, .ref 161, .ref 162, .ref 163, .ref 164, .int 0, .ref 165, .ref 166, .ref 167, .ref 168, .ref 169, .ref 170, .int (-3), .int (-3), .int (-3), .int (-3), .int 0, .int 0, .int 0, .int 0, .int 0, .ref 171, .ref 172, .ref 173, .int 0, .int 0]))
theorem ifo131 : iw130.set 59 (.inr (7, [.ref 160, .ref 161, .ref 162, .ref 163, .ref 164, .int 0, .ref 165, .ref 166, .ref 167, .ref 168, .ref 169, .ref 170, .int (-3), .int (-3), .int (-3), .int (-3), .int 0, .int 0, .int 0, .int 0, .int 0, .ref 171, .ref 172, .ref 173, .int 0, .int 0])) = iw131 := rfl
theorem ile131 : iw131.length = 74 := rfl
set_option maxHeartbeats 4000000 in
set_option maxRecDepth 100000 in
theorem law_init {X : sm_X} {Q : Option Value → sm_W → Prop} : sm_R X 93 0 [.ref 99, sm_J, sm_J, sm_J] [] iw0 Q ↔ sm_R X 93 18 [.ref 99, .ref 100, .ref 159, .int 0] [] iw131 Q := by
  simp (config := { maxSteps := 2000000, decide := true }) only [r93_0, r93_3, r93_4, r93_7, r93_8, r93_11, r93_12, r93_15, r93_16, r93_17, r0_0, r0_1, r0_4, r0_5, r0_8, r0_9, r0_12, r0_15, r0_16, r0_19, r0_20, r0_23, r0_26, r0_27, r0_30, r0_31, r0_34, r0_37, r0_38, r0_39, r0_42, r0_45, r0_46, r0_47, r0_48, r0_49, r0_52, r0_53, r0_56, r0_57, r0_60, r0_61, r0_64, r0_65, r0_68, r0_71, r0_72, r0_75, r0_76, r0_79, r0_82, r0_83, r0_86, r0_87, r0_88, r0_91, r0_92, r0_95, r0_98, r0_101, r0_102, r0_104, r0_107, r1_0, r1_1, r1_4, r1_5, r1_7, r1_9, r1_12, r1_13, r1_14, r1_15, r1_19, r1_22, r1_23, r1_24, r1_26, r1_30, r1_33, r1_34, r1_36, r1_38, r1_41, r1_42, r1_44, r1_46, r1_49, r2_0, r2_1, r2_4, r2_5, r2_7, r2_9, r2_12, r2_13, r2_15, r2_17, r2_20, r3_0, r3_1, r3_4, r3_5, r3_6, r3_9, r3_12, r3_13, r3_14, r3_15, r3_16, r3_19, r3_20, r3_23, r3_24, r3_27, r3_28, r3_31, r3_32, r3_35, r3_38, r4_0, r4_1, r4_4, r4_5, r4_6, r4_8, r4_11, r5_0, r5_1, r5_4, r5_5, r5_8, r5_9, r5_12, r5_15, r5_16, r5_18, r5_21, r5_22, r5_23, r5_26, r5_27, r5_28, r5_31, r5_32, r5_33, r5_36, r5_37, r5_38, r5_41, r6_0, r6_1, r6_4, r6_5, r6_7, r6_9, r6_12, r6_13, r6_15, r6_17, r6_20, r60_0, r60_1, r60_4, r60_5, r60_7, r60_9, r60_12, r60_13, r60_15, r60_17, r60_20, r60_21, r60_24, r60_26, r60_29, r60_30, r60_33, r60_35, r60_38, r60_39, r60_40, r60_42, r60_45, r60_46, r60_47, r60_50, r60_51, r60_52, r60_54, r60_57, r60_58, r60_59, r60_61, r60_64, r60_65, r60_66, r60_68, r60_71, r60_72, r60_73, r60_75, r60_78, r60_79, r60_80, r60_82, r60_85, r60_86, r60_88, r60_90, r60_93, r60_94, r60_96, r60_99, r60_100, r60_102, r60_105, r60_106, r60_108, r60_111, r60_112, r60_114, r60_117, r60_118, r60_119, r60_122, r60_123, r60_124, r60_127, r60_128, r60_129, r60_132, r60_133, r60_134, r60_137, r60_138, r60_139, r60_142, r60_143, r60_145, r60_147, r60_150, r60_151, r60_153, r60_155, r60_158, r60_159, r60_161, r60_163, r60_166, r60_167, r60_168, r60_171, r60_172, r60_173, r60_176, ifo1, ifo2, ifo3, ifo4, ifo5, ifo6, ifo7, ifo8, ifo9, ifo10, ifo11, ifo12, ifo13, ifo14, ifo15, ifo16, ifo17, ifo18, ifo19, ifo20, ifo21, ifo22, ifo23, ifo24, ifo25, ifo26, ifo27, ifo28, ifo29, ifo30, ifo31, ifo32, ifo33, ifo34, ifo35, ifo36, ifo37, ifo38, ifo39, ifo40, ifo41, ifo42, ifo43, ifo44, ifo45, ifo46, ifo47, ifo48, ifo49, ifo50, ifo51, ifo52, ifo53, ifo54, ifo55, ifo56, ifo57, ifo58, ifo59, ifo60, ifo61, ifo62, ifo63, ifo64, ifo65, ifo66, ifo67, ifo68, ifo69, ifo70, ifo71, ifo72, ifo73, ifo74, ifo75, ifo76, ifo77, ifo78, ifo79, ifo80, ifo81, ifo82, ifo83, ifo84, ifo85, ifo86, ifo87, ifo88, ifo89, ifo90, ifo91, ifo92, ifo93, ifo94, ifo95, ifo96, ifo97, ifo98, ifo99, ifo100, ifo101, ifo102, ifo103, ifo104, ifo105, ifo106, ifo107, ifo108, ifo109, ifo110, ifo111, ifo112, ifo113, ifo114, ifo115, ifo116, ifo117, ifo118, ifo119, ifo120, ifo121, ifo122, ifo123, ifo124, ifo125, ifo126, ifo127, ifo128, ifo129, ifo130, ifo131, ile0, ile1, ile2, ile3, ile4, ile5, ile6, ile7, ile8, ile9, ile10, ile11, ile12, ile13, ile14, ile15, ile16, ile17, ile18, ile19, ile20, ile21, ile22, ile23, ile24, ile25, ile26, ile27, ile28, ile29, ile30, ile31, ile32, ile33, ile34, ile35, ile36, ile37, ile38, ile39, ile40, ile41, ile42, ile43, ile44, ile45, ile46, ile47, ile48, ile49, ile50, ile51, ile52, ile53, ile54, ile55, ile56, ile57, ile58, ile59, ile60, ile61, ile62, ile63, ile64, ile65, ile66, ile67, ile68, ile69, ile70, ile71, ile72, ile73, ile74, ile75, ile76, ile77, ile78, ile79, ile80, ile81, ile82, ile83, ile84, ile85, ile86, ile87, ile88, ile89, ile90, ile91, ile92, ile93, ile94, ile95, ile96, ile97, ile98, ile99, ile100, ile101, ile102, ile103, ile104, ile105, ile106, ile107, ile108, ile109, ile110, ile111, ile112, ile113, ile114, ile115, ile116, ile117, ile118, ile119, ile120, ile121, ile122, ile123, ile124, ile125, ile126, ile127, ile128, ile129, ile130, ile131, ige3_1, ige5_1, ige7_1, ige9_1, ige11_1, ige12_0, ige15_15, ige17_15, ige19_15, ige21_15, ige23_15, ige24_0, ige27_29, ige29_29, ige30_0, ige32_0, ige33_0, ige35_33, ige37_33, ige38_32, ige38_33, ige39_0, ige41_36, ige43_36, ige44_32, ige44_36, ige45_0, ige47_39, ige49_39, ige50_32, ige50_39, ige51_0, ige53_42, ige55_42, ige56_32, ige56_42, ige59_45, ige60_45, ige62_47, ige63_46, ige63_47, ige64_45, ige66_49, ige67_46, ige67_49, ige68_45, ige70_51, ige71_46, ige71_51, ige72_45, ige74_53, ige75_46, ige75_53, ige76_0, ige78_0, ige80_56, ige82_56, ige83_55, ige84_55, ige85_55, ige86_55, ige87_45, ige87_46, ige87_55, ige88_0, ige89_0, ige92_59, ige94_59, ige96_59, ige98_59, ige100_59, ige101_59, ige103_59, ige105_59, ige107_59, ige109_59, ige111_59, ige113_59, ige114_59, ige115_59, ige116_59, ige117_59, ige118_59, ige119_59, ige120_59, ige121_59, ige122_59, ige124_59, ige126_59, ige128_59, ige129_59, ige130_59, sm_wp_some, sm_wp_none, sm_at, sm_get, sm_fld, sm_pfl, sm_cN, sm_ai, sm_al, sm_si, sm_slg, sm_aa, List.getElem?_cons_zero, List.getElem?_cons_succ, List.set_cons_zero, List.set_cons_succ, List.length_cons, List.length_nil, Option.toList_some, Option.toList_none, List.cons_append, List.nil_append, if_true, if_false, true_and, and_true, Option.some.injEq, List.length_set, pk_us, Nat.reduceLT, Nat.reduceLeDiff, Nat.reduceSub, Nat.reduceEqDiff, Nat.reduceAdd, Int32.reduceLT, Int32.reduceLE, Int32.reduceAdd, Int32.reduceSub, Int32.reduceToNatClampNeg, reduceIte, reduceCtorEq, Nat.lt_irrefl, sm_sa, va_up]
