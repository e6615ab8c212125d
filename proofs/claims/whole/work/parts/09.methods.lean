def y_Main_init : MethodName := ⟨"QuernGrains", "<init>", "()V"⟩
def y_Main_write : MethodName := ⟨"QuernGrains", "write", "(IJ)I"⟩
def rm_Main_write : Room := { frames := 1, cells := 0, slots := 0, locals := 22 }
def y_Main_wipe : MethodName := ⟨"QuernGrains", "wipe", "()I"⟩
def rm_Main_wipe : Room := { frames := 1, cells := 0, slots := 0, locals := 20 }
def y_Main_fault : MethodName := ⟨"QuernGrains", "fault", "()I"⟩
def rm_Main_fault : Room := { frames := 5, cells := 0, slots := 0, locals := 115 }
def y_Main_lay : MethodName := ⟨"QuernGrains", "lay", "()I"⟩
def rm_Main_lay : Room := { frames := 5, cells := 0, slots := 0, locals := 115 }
def y_Main_face : MethodName := ⟨"QuernGrains", "face", "(II)I"⟩
def rm_Main_face : Room := { frames := 1, cells := 0, slots := 0, locals := 21 }
def y_Main_lies : MethodName := ⟨"QuernGrains", "lies", "(III)I"⟩
def rm_Main_lies : Room := { frames := 2, cells := 0, slots := 0, locals := 49 }
def y_Main_read : MethodName := ⟨"QuernGrains", "read", "(III)I"⟩
def rm_Main_read : Room := { frames := 3, cells := 0, slots := 0, locals := 76 }
def y_Main_more : MethodName := ⟨"QuernGrains", "more", "(IIIII)J"⟩
def rm_Main_more : Room := { frames := 2, cells := 0, slots := 0, locals := 58 }
def y_Main_says : MethodName := ⟨"QuernGrains", "says", "(III)I"⟩
def rm_Main_says : Room := { frames := 2, cells := 0, slots := 0, locals := 48 }
def y_Main_controls : MethodName := ⟨"QuernGrains", "controls", "(III)I"⟩
def rm_Main_controls : Room := { frames := 2, cells := 0, slots := 0, locals := 48 }
def y_Main_heap : MethodName := ⟨"QuernGrains", "heap", "(IIIIII)J"⟩
def rm_Main_heap : Room := { frames := 3, cells := 0, slots := 0, locals := 73 }
def y_Main_most : MethodName := ⟨"QuernGrains", "most", "(IIII)I"⟩
def rm_Main_most : Room := { frames := 3, cells := 0, slots := 0, locals := 73 }
def y_Main_shares : MethodName := ⟨"QuernGrains", "shares", "(IIIIII)I"⟩
def rm_Main_shares : Room := { frames := 3, cells := 0, slots := 0, locals := 80 }
def y_Main_kin : MethodName := ⟨"QuernGrains", "kin", "(II)I"⟩
def rm_Main_kin : Room := { frames := 5, cells := 0, slots := 0, locals := 122 }
def y_Main_cooked : MethodName := ⟨"QuernGrains", "cooked", "(III)I"⟩
def rm_Main_cooked : Room := { frames := 3, cells := 0, slots := 0, locals := 74 }
def y_Main_count : MethodName := ⟨"QuernGrains", "count", "(III)I"⟩
def rm_Main_count : Room := { frames := 1, cells := 0, slots := 0, locals := 24 }
def y_Main_books : MethodName := ⟨"QuernGrains", "books", "(IIIZ)I"⟩
def rm_Main_books : Room := { frames := 4, cells := 0, slots := 0, locals := 103 }
def y_Main_ground : MethodName := ⟨"QuernGrains", "ground", "(IIIZ)I"⟩
def rm_Main_ground : Room := { frames := 5, cells := 0, slots := 0, locals := 128 }
def y_Main_sure : MethodName := ⟨"QuernGrains", "sure", "(II)I"⟩
def rm_Main_sure : Room := { frames := 6, cells := 0, slots := 0, locals := 152 }
def y_Main_leave : MethodName := ⟨"QuernGrains", "leave", "(II)I"⟩
def rm_Main_leave : Room := { frames := 2, cells := 0, slots := 0, locals := 49 }
def y_Main_blind : MethodName := ⟨"QuernGrains", "blind", "(II)I"⟩
def rm_Main_blind : Room := { frames := 1, cells := 0, slots := 0, locals := 22 }
def y_Main_slips : MethodName := ⟨"QuernGrains", "slips", "(III)I"⟩
def rm_Main_slips : Room := { frames := 2, cells := 0, slots := 0, locals := 58 }
def y_Main_lean : MethodName := ⟨"QuernGrains", "lean", "(I)I"⟩
def rm_Main_lean : Room := { frames := 1, cells := 0, slots := 0, locals := 23 }
def y_Main_right : MethodName := ⟨"QuernGrains", "right", "(II)I"⟩
def rm_Main_right : Room := { frames := 1, cells := 0, slots := 0, locals := 23 }
def y_Main_teeth : MethodName := ⟨"QuernGrains", "teeth", "(I)I"⟩
def rm_Main_teeth : Room := { frames := 1, cells := 0, slots := 0, locals := 22 }
def y_Main_eaten : MethodName := ⟨"QuernGrains", "eaten", "(II)I"⟩
def rm_Main_eaten : Room := { frames := 6, cells := 0, slots := 0, locals := 152 }
def y_Main_next : MethodName := ⟨"QuernGrains", "next", "()I"⟩
def rm_Main_next : Room := { frames := 2, cells := 0, slots := 0, locals := 44 }
def y_Main_keep : MethodName := ⟨"QuernGrains", "keep", "()I"⟩
def rm_Main_keep : Room := { frames := 2, cells := 0, slots := 0, locals := 48 }
def y_Main_back : MethodName := ⟨"QuernGrains", "back", "()I"⟩
def rm_Main_back : Room := { frames := 2, cells := 0, slots := 0, locals := 48 }
def y_Main_size : MethodName := ⟨"QuernGrains", "size", "(I)I"⟩
def rm_Main_size : Room := { frames := 1, cells := 0, slots := 0, locals := 20 }
def y_Main_groundOn : MethodName := ⟨"QuernGrains", "groundOn", "(IIIZ)I"⟩
def rm_Main_groundOn : Room := { frames := 4, cells := 0, slots := 0, locals := 103 }
def y_Main_surelyGround : MethodName := ⟨"QuernGrains", "surelyGround", "(II)I"⟩
def rm_Main_surelyGround : Room := { frames := 5, cells := 0, slots := 0, locals := 128 }
def y_Main_readAreaOf : MethodName := ⟨"QuernGrains", "readAreaOf", "(I)I"⟩
def rm_Main_readAreaOf : Room := { frames := 1, cells := 0, slots := 0, locals := 21 }
def y_Main_isDoubt : MethodName := ⟨"QuernGrains", "isDoubt", "(I)Z"⟩
def rm_Main_isDoubt : Room := { frames := 1, cells := 0, slots := 0, locals := 22 }
def y_Main_within : MethodName := ⟨"QuernGrains", "within", "(III)Z"⟩
def rm_Main_within : Room := { frames := 0, cells := 0, slots := 0, locals := 0 }
def y_Model_init : MethodName := ⟨"QuernGrainsModel", "<init>", "()V"⟩
def y_Model_in : MethodName := ⟨"QuernGrainsModel", "in", "(JJJ)Z"⟩
def rm_Model_in : Room := { frames := 0, cells := 0, slots := 0, locals := 0 }
def y_Model_has : MethodName := ⟨"QuernGrainsModel", "has", "(II)Z"⟩
def rm_Model_has : Room := { frames := 0, cells := 0, slots := 0, locals := 0 }
def y_Model_noStones : MethodName := ⟨"QuernGrainsModel", "noStones", "(I)V"⟩
def rm_Model_noStones : Room := { frames := 0, cells := 0, slots := 0, locals := 0 }
def y_Model_write : MethodName := ⟨"QuernGrainsModel", "write", "(IJ)I"⟩
def rm_Model_write : Room := { frames := 1, cells := 0, slots := 0, locals := 25 }
def y_Model_wipe : MethodName := ⟨"QuernGrainsModel", "wipe", "()I"⟩
def rm_Model_wipe : Room := { frames := 0, cells := 0, slots := 0, locals := 0 }
def y_Model_byteAt : MethodName := ⟨"QuernGrainsModel", "byteAt", "(I)I"⟩
def rm_Model_byteAt : Room := { frames := 0, cells := 0, slots := 0, locals := 0 }
def y_Model_figures : MethodName := ⟨"QuernGrainsModel", "figures", "(I)Z"⟩
def rm_Model_figures : Room := { frames := 1, cells := 0, slots := 0, locals := 25 }
def y_Model_sortItem : MethodName := ⟨"QuernGrainsModel", "sortItem", "()Z"⟩
def rm_Model_sortItem : Room := { frames := 2, cells := 0, slots := 0, locals := 49 }
def y_Model_faceItem : MethodName := ⟨"QuernGrainsModel", "faceItem", "()Z"⟩
def rm_Model_faceItem : Room := { frames := 2, cells := 0, slots := 0, locals := 49 }
def y_Model_callItem : MethodName := ⟨"QuernGrainsModel", "callItem", "()Z"⟩
def rm_Model_callItem : Room := { frames := 2, cells := 0, slots := 0, locals := 49 }
def y_Model_item : MethodName := ⟨"QuernGrainsModel", "item", "()Z"⟩
def rm_Model_item : Room := { frames := 3, cells := 0, slots := 0, locals := 71 }
def y_Model_readAll : MethodName := ⟨"QuernGrainsModel", "readAll", "()I"⟩
def rm_Model_readAll : Room := { frames := 4, cells := 0, slots := 0, locals := 92 }
def y_Model_fault : MethodName := ⟨"QuernGrainsModel", "fault", "()I"⟩
def rm_Model_fault : Room := { frames := 5, cells := 0, slots := 0, locals := 113 }
def y_Model_lay : MethodName := ⟨"QuernGrainsModel", "lay", "()I"⟩
def rm_Model_lay : Room := { frames := 5, cells := 0, slots := 0, locals := 113 }
def y_Model_isSort : MethodName := ⟨"QuernGrainsModel", "isSort", "(I)Z"⟩
def rm_Model_isSort : Room := { frames := 1, cells := 0, slots := 0, locals := 25 }
def y_Model_isFace : MethodName := ⟨"QuernGrainsModel", "isFace", "(I)Z"⟩
def rm_Model_isFace : Room := { frames := 1, cells := 0, slots := 0, locals := 25 }
def y_Model_face : MethodName := ⟨"QuernGrainsModel", "face", "(II)I"⟩
def rm_Model_face : Room := { frames := 2, cells := 0, slots := 0, locals := 46 }
def y_Model_liesOf : MethodName := ⟨"QuernGrainsModel", "liesOf", "(III)I"⟩
def rm_Model_liesOf : Room := { frames := 1, cells := 0, slots := 0, locals := 21 }
def y_Model_allOf : MethodName := ⟨"QuernGrainsModel", "allOf", "(II)I"⟩
def rm_Model_allOf : Room := { frames := 2, cells := 0, slots := 0, locals := 46 }
def y_Model_lies : MethodName := ⟨"QuernGrainsModel", "lies", "(III)I"⟩
def rm_Model_lies : Room := { frames := 3, cells := 0, slots := 0, locals := 70 }
def y_Model_draw : MethodName := ⟨"QuernGrainsModel", "draw", "(III)I"⟩
def rm_Model_draw : Room := { frames := 0, cells := 0, slots := 0, locals := 0 }
def y_Model_calledBy : MethodName := ⟨"QuernGrainsModel", "calledBy", "(II)I"⟩
def rm_Model_calledBy : Room := { frames := 0, cells := 0, slots := 0, locals := 0 }
def y_Model_read : MethodName := ⟨"QuernGrainsModel", "read", "(III)I"⟩
def rm_Model_read : Room := { frames := 3, cells := 0, slots := 0, locals := 70 }
def y_Model_power : MethodName := ⟨"QuernGrainsModel", "power", "(JI)J"⟩
def rm_Model_power : Room := { frames := 0, cells := 0, slots := 0, locals := 0 }
def y_Model_common : MethodName := ⟨"QuernGrainsModel", "common", "(JJ)J"⟩
def rm_Model_common : Room := { frames := 0, cells := 0, slots := 0, locals := 0 }
def y_Model_isArea : MethodName := ⟨"QuernGrainsModel", "isArea", "(I)Z"⟩
def rm_Model_isArea : Room := { frames := 1, cells := 0, slots := 0, locals := 25 }
def y_Model_more : MethodName := ⟨"QuernGrainsModel", "more", "(IIIII)J"⟩
def rm_Model_more : Room := { frames := 2, cells := 0, slots := 0, locals := 45 }
def y_Model_isRare : MethodName := ⟨"QuernGrainsModel", "isRare", "(IIII)Z"⟩
def rm_Model_isRare : Room := { frames := 1, cells := 0, slots := 0, locals := 25 }
def y_Model_says : MethodName := ⟨"QuernGrainsModel", "says", "(III)I"⟩
def rm_Model_says : Room := { frames := 2, cells := 0, slots := 0, locals := 48 }
def y_Model_controls : MethodName := ⟨"QuernGrainsModel", "controls", "(III)I"⟩
def rm_Model_controls : Room := { frames := 2, cells := 0, slots := 0, locals := 48 }
def y_Model_isHeap : MethodName := ⟨"QuernGrainsModel", "isHeap", "(IIIII)Z"⟩
def rm_Model_isHeap : Room := { frames := 1, cells := 0, slots := 0, locals := 25 }
def y_Model_likely : MethodName := ⟨"QuernGrainsModel", "likely", "(I)J"⟩
def rm_Model_likely : Room := { frames := 1, cells := 0, slots := 0, locals := 25 }
def y_Model_heap : MethodName := ⟨"QuernGrainsModel", "heap", "(IIIIII)J"⟩
def rm_Model_heap : Room := { frames := 2, cells := 0, slots := 0, locals := 50 }
def y_Model_most : MethodName := ⟨"QuernGrainsModel", "most", "(IIII)I"⟩
def rm_Model_most : Room := { frames := 2, cells := 0, slots := 0, locals := 50 }
def y_Model_shares : MethodName := ⟨"QuernGrainsModel", "shares", "(IIIIII)I"⟩
def rm_Model_shares : Room := { frames := 2, cells := 0, slots := 0, locals := 50 }
def y_Model_apart : MethodName := ⟨"QuernGrainsModel", "apart", "(I[I)I"⟩
def rm_Model_apart : Room := { frames := 0, cells := 0, slots := 0, locals := 0 }
def y_Model_areNear : MethodName := ⟨"QuernGrainsModel", "areNear", "(III)Z"⟩
def rm_Model_areNear : Room := { frames := 1, cells := 0, slots := 0, locals := 25 }
def y_Model_kin : MethodName := ⟨"QuernGrainsModel", "kin", "(II)I"⟩
def rm_Model_kin : Room := { frames := 2, cells := 0, slots := 0, locals := 49 }
def y_Model_cooked : MethodName := ⟨"QuernGrainsModel", "cooked", "(III)I"⟩
def rm_Model_cooked : Room := { frames := 2, cells := 0, slots := 0, locals := 46 }
def y_Model_count : MethodName := ⟨"QuernGrainsModel", "count", "(III)I"⟩
def rm_Model_count : Room := { frames := 2, cells := 0, slots := 0, locals := 46 }
def y_Model_laidBy : MethodName := ⟨"QuernGrainsModel", "laidBy", "(II)I"⟩
def rm_Model_laidBy : Room := { frames := 1, cells := 0, slots := 0, locals := 21 }
def y_Model_fits : MethodName := ⟨"QuernGrainsModel", "fits", "(III)Z"⟩
def rm_Model_fits : Room := { frames := 2, cells := 0, slots := 0, locals := 46 }
def y_Model_figure : MethodName := ⟨"QuernGrainsModel", "figure", "(II)I"⟩
def rm_Model_figure : Room := { frames := 0, cells := 0, slots := 0, locals := 0 }
def y_Model_books : MethodName := ⟨"QuernGrainsModel", "books", "(IIIZ)I"⟩
def rm_Model_books : Room := { frames := 3, cells := 0, slots := 0, locals := 71 }
def y_Model_groundOf : MethodName := ⟨"QuernGrainsModel", "groundOf", "(IIIZ)I"⟩
def rm_Model_groundOf : Room := { frames := 3, cells := 0, slots := 0, locals := 71 }
def y_Model_ground : MethodName := ⟨"QuernGrainsModel", "ground", "(IIIZ)I"⟩
def rm_Model_ground : Room := { frames := 4, cells := 0, slots := 0, locals := 98 }
def y_Model_sureOf : MethodName := ⟨"QuernGrainsModel", "sureOf", "(II)I"⟩
def rm_Model_sureOf : Room := { frames := 4, cells := 0, slots := 0, locals := 98 }
def y_Model_sure : MethodName := ⟨"QuernGrainsModel", "sure", "(II)I"⟩
def rm_Model_sure : Room := { frames := 5, cells := 0, slots := 0, locals := 122 }
def y_Model_leave : MethodName := ⟨"QuernGrainsModel", "leave", "(II)I"⟩
def rm_Model_leave : Room := { frames := 1, cells := 0, slots := 0, locals := 25 }
def y_Model_blindOf : MethodName := ⟨"QuernGrainsModel", "blindOf", "(IZ)I"⟩
def rm_Model_blindOf : Room := { frames := 0, cells := 0, slots := 0, locals := 0 }
def y_Model_blindAll : MethodName := ⟨"QuernGrainsModel", "blindAll", "()I"⟩
def rm_Model_blindAll : Room := { frames := 0, cells := 0, slots := 0, locals := 0 }
def y_Model_blind : MethodName := ⟨"QuernGrainsModel", "blind", "(II)I"⟩
def rm_Model_blind : Room := { frames := 2, cells := 0, slots := 0, locals := 46 }
def y_Model_slips : MethodName := ⟨"QuernGrainsModel", "slips", "(III)I"⟩
def rm_Model_slips : Room := { frames := 2, cells := 0, slots := 0, locals := 46 }
def y_Model_lean : MethodName := ⟨"QuernGrainsModel", "lean", "(I)I"⟩
def rm_Model_lean : Room := { frames := 2, cells := 0, slots := 0, locals := 46 }
def y_Model_right : MethodName := ⟨"QuernGrainsModel", "right", "(II)I"⟩
def rm_Model_right : Room := { frames := 2, cells := 0, slots := 0, locals := 46 }
def y_Model_teeth : MethodName := ⟨"QuernGrainsModel", "teeth", "(I)I"⟩
def rm_Model_teeth : Room := { frames := 1, cells := 0, slots := 0, locals := 25 }
def y_Model_eaten : MethodName := ⟨"QuernGrainsModel", "eaten", "(II)I"⟩
def rm_Model_eaten : Room := { frames := 5, cells := 0, slots := 0, locals := 122 }
def y_Model_readArea : MethodName := ⟨"QuernGrainsModel", "readArea", "(I)I"⟩
def rm_Model_readArea : Room := { frames := 0, cells := 0, slots := 0, locals := 0 }
def y_Model_next : MethodName := ⟨"QuernGrainsModel", "next", "()I"⟩
def rm_Model_next : Room := { frames := 1, cells := 0, slots := 0, locals := 23 }
def y_Model_copy : MethodName := ⟨"QuernGrainsModel", "copy", "(II)V"⟩
def rm_Model_copy : Room := { frames := 0, cells := 0, slots := 0, locals := 0 }
def y_Model_keep : MethodName := ⟨"QuernGrainsModel", "keep", "()I"⟩
def rm_Model_keep : Room := { frames := 1, cells := 0, slots := 0, locals := 23 }
def y_Model_back : MethodName := ⟨"QuernGrainsModel", "back", "()I"⟩
def rm_Model_back : Room := { frames := 1, cells := 0, slots := 0, locals := 23 }
def y_Model_size : MethodName := ⟨"QuernGrainsModel", "size", "(I)I"⟩
def rm_Model_size : Room := { frames := 1, cells := 0, slots := 0, locals := 22 }
def y_Books_init : MethodName := ⟨"QuernGrains$Books", "<init>", "()V"⟩
def y_Books_search : MethodName := ⟨"QuernGrains$Books", "search", "(LQuernGrains$Quern;LQuernGrains$Finds;III)V"⟩
def rm_Books_search : Room := { frames := 3, cells := 0, slots := 0, locals := 72 }
def y_Books_boundSums : MethodName := ⟨"QuernGrains$Books", "boundSums", "(LQuernGrains$Quern;LQuernGrains$Finds;II)V"⟩
def rm_Books_boundSums : Room := { frames := 2, cells := 0, slots := 0, locals := 47 }
def y_Books_boundSum : MethodName := ⟨"QuernGrains$Books", "boundSum", "(IIII)V"⟩
def rm_Books_boundSum : Room := { frames := 1, cells := 0, slots := 0, locals := 21 }
def y_Books_isFree : MethodName := ⟨"QuernGrains$Books", "isFree", "(I)Z"⟩
def rm_Books_isFree : Room := { frames := 0, cells := 0, slots := 0, locals := 0 }
def y_Books_leastOf : MethodName := ⟨"QuernGrains$Books", "leastOf", "(I)I"⟩
def rm_Books_leastOf : Room := { frames := 1, cells := 0, slots := 0, locals := 21 }
def y_Books_greatestOf : MethodName := ⟨"QuernGrains$Books", "greatestOf", "(I)I"⟩
def rm_Books_greatestOf : Room := { frames := 1, cells := 0, slots := 0, locals := 21 }
def y_Books_addStep : MethodName := ⟨"QuernGrains$Books", "addStep", "(II)V"⟩
def rm_Books_addStep : Room := { frames := 0, cells := 0, slots := 0, locals := 0 }
def y_Books_noteRange : MethodName := ⟨"QuernGrains$Books", "noteRange", "(III)V"⟩
def rm_Books_noteRange : Room := { frames := 1, cells := 0, slots := 0, locals := 21 }
def y_Books_noteFreeSteps : MethodName := ⟨"QuernGrains$Books", "noteFreeSteps", "(I)V"⟩
def rm_Books_noteFreeSteps : Room := { frames := 1, cells := 0, slots := 0, locals := 21 }
def y_Finds_init : MethodName := ⟨"QuernGrains$Finds", "<init>", "()V"⟩
def y_Finds_clear : MethodName := ⟨"QuernGrains$Finds", "clear", "()V"⟩
def rm_Finds_clear : Room := { frames := 1, cells := 0, slots := 0, locals := 23 }
def y_Finds_copyFrom : MethodName := ⟨"QuernGrains$Finds", "copyFrom", "(LQuernGrains$Finds;)V"⟩
def rm_Finds_copyFrom : Room := { frames := 1, cells := 0, slots := 0, locals := 26 }
def y_Finds_isRead : MethodName := ⟨"QuernGrains$Finds", "isRead", "(I)Z"⟩
def rm_Finds_isRead : Room := { frames := 0, cells := 0, slots := 0, locals := 0 }
def y_Finds_tell : MethodName := ⟨"QuernGrains$Finds", "tell", "(III)I"⟩
def rm_Finds_tell : Room := { frames := 0, cells := 0, slots := 0, locals := 0 }
def y_Finds_tellBlind : MethodName := ⟨"QuernGrains$Finds", "tellBlind", "(II)I"⟩
def rm_Finds_tellBlind : Room := { frames := 0, cells := 0, slots := 0, locals := 0 }
def y_Finds_blindThatWere : MethodName := ⟨"QuernGrains$Finds", "blindThatWere", "(I)I"⟩
def rm_Finds_blindThatWere : Room := { frames := 0, cells := 0, slots := 0, locals := 0 }
def y_Finds_blindCalled : MethodName := ⟨"QuernGrains$Finds", "blindCalled", "(I)I"⟩
def rm_Finds_blindCalled : Room := { frames := 0, cells := 0, slots := 0, locals := 0 }
def y_Heap_init : MethodName := ⟨"QuernGrains$Heap", "<init>", "()V"⟩
def y_Heap_pile : MethodName := ⟨"QuernGrains$Heap", "pile", "(IIIII)Z"⟩
def rm_Heap_pile : Room := { frames := 1, cells := 0, slots := 0, locals := 22 }
def y_Heap_productOf : MethodName := ⟨"QuernGrains$Heap", "productOf", "([I)J"⟩
def rm_Heap_productOf : Room := { frames := 2, cells := 0, slots := 0, locals := 52 }
def y_Heap_bestShare : MethodName := ⟨"QuernGrains$Heap", "bestShare", "([I[I)I"⟩
def rm_Heap_bestShare : Room := { frames := 2, cells := 0, slots := 0, locals := 52 }
def y_Heap_productOfMix : MethodName := ⟨"QuernGrains$Heap", "productOfMix", "(I[II[I)J"⟩
def rm_Heap_productOfMix : Room := { frames := 1, cells := 0, slots := 0, locals := 25 }
def y_Odds_waysOfAtLeast : MethodName := ⟨"QuernGrains$Odds", "waysOfAtLeast", "(IIII)J"⟩
def rm_Odds_waysOfAtLeast : Room := { frames := 1, cells := 0, slots := 0, locals := 25 }
def y_Odds_areRare : MethodName := ⟨"QuernGrains$Odds", "areRare", "(IIII)Z"⟩
def rm_Odds_areRare : Room := { frames := 1, cells := 0, slots := 0, locals := 25 }
def y_Odds_power : MethodName := ⟨"QuernGrains$Odds", "power", "(JI)J"⟩
def rm_Odds_power : Room := { frames := 0, cells := 0, slots := 0, locals := 0 }
def y_Odds_inLowestTerms : MethodName := ⟨"QuernGrains$Odds", "inLowestTerms", "(JJI)J"⟩
def rm_Odds_inLowestTerms : Room := { frames := 1, cells := 0, slots := 0, locals := 30 }
def y_Odds_commonDivisor : MethodName := ⟨"QuernGrains$Odds", "commonDivisor", "(JJ)J"⟩
def rm_Odds_commonDivisor : Room := { frames := 0, cells := 0, slots := 0, locals := 0 }
def y_Quern_init : MethodName := ⟨"QuernGrains$Quern", "<init>", "()V"⟩
def y_Quern_clear : MethodName := ⟨"QuernGrains$Quern", "clear", "()V"⟩
def rm_Quern_clear : Room := { frames := 1, cells := 0, slots := 0, locals := 23 }
def y_Quern_beAsAtFirst : MethodName := ⟨"QuernGrains$Quern", "beAsAtFirst", "()V"⟩
def rm_Quern_beAsAtFirst : Room := { frames := 0, cells := 0, slots := 0, locals := 0 }
def y_Quern_hasSort : MethodName := ⟨"QuernGrains$Quern", "hasSort", "(I)Z"⟩
def rm_Quern_hasSort : Room := { frames := 0, cells := 0, slots := 0, locals := 0 }
def y_Quern_hasPatch : MethodName := ⟨"QuernGrains$Quern", "hasPatch", "(I)Z"⟩
def rm_Quern_hasPatch : Room := { frames := 0, cells := 0, slots := 0, locals := 0 }
def y_Quern_take : MethodName := ⟨"QuernGrains$Quern", "take", "(I[I)Z"⟩
def rm_Quern_take : Room := { frames := 2, cells := 0, slots := 0, locals := 47 }
def y_Quern_takeSort : MethodName := ⟨"QuernGrains$Quern", "takeSort", "([I)Z"⟩
def rm_Quern_takeSort : Room := { frames := 1, cells := 0, slots := 0, locals := 26 }
def y_Quern_takePatch : MethodName := ⟨"QuernGrains$Quern", "takePatch", "([I)Z"⟩
def rm_Quern_takePatch : Room := { frames := 1, cells := 0, slots := 0, locals := 22 }
def y_Quern_takeUse : MethodName := ⟨"QuernGrains$Quern", "takeUse", "(III)Z"⟩
def rm_Quern_takeUse : Room := { frames := 1, cells := 0, slots := 0, locals := 22 }
def y_Quern_takeBook : MethodName := ⟨"QuernGrains$Quern", "takeBook", "(III)Z"⟩
def rm_Quern_takeBook : Room := { frames := 1, cells := 0, slots := 0, locals := 22 }
def y_Quern_takeWash : MethodName := ⟨"QuernGrains$Quern", "takeWash", "(II)Z"⟩
def rm_Quern_takeWash : Room := { frames := 1, cells := 0, slots := 0, locals := 22 }
def y_Quern_takeHours : MethodName := ⟨"QuernGrains$Quern", "takeHours", "(III)Z"⟩
def rm_Quern_takeHours : Room := { frames := 1, cells := 0, slots := 0, locals := 22 }
def y_Quern_takeSlip : MethodName := ⟨"QuernGrains$Quern", "takeSlip", "(III)Z"⟩
def rm_Quern_takeSlip : Room := { frames := 1, cells := 0, slots := 0, locals := 22 }
def y_Quern_isStep : MethodName := ⟨"QuernGrains$Quern", "isStep", "(I)Z"⟩
def rm_Quern_isStep : Room := { frames := 0, cells := 0, slots := 0, locals := 0 }
def y_Quern_lying : MethodName := ⟨"QuernGrains$Quern", "lying", "(III)I"⟩
def rm_Quern_lying : Room := { frames := 0, cells := 0, slots := 0, locals := 0 }
def y_Quern_lyingOfAll : MethodName := ⟨"QuernGrains$Quern", "lyingOfAll", "(II)I"⟩
def rm_Quern_lyingOfAll : Room := { frames := 1, cells := 0, slots := 0, locals := 25 }
def y_Quern_calledOn : MethodName := ⟨"QuernGrains$Quern", "calledOn", "(III)I"⟩
def rm_Quern_calledOn : Room := { frames := 2, cells := 0, slots := 0, locals := 49 }
def y_Quern_draw : MethodName := ⟨"QuernGrains$Quern", "draw", "(III)I"⟩
def rm_Quern_draw : Room := { frames := 0, cells := 0, slots := 0, locals := 0 }
def y_Quern_calledBy : MethodName := ⟨"QuernGrains$Quern", "calledBy", "(II)I"⟩
def rm_Quern_calledBy : Room := { frames := 0, cells := 0, slots := 0, locals := 0 }
def y_Quern_kinsOf : MethodName := ⟨"QuernGrains$Quern", "kinsOf", "(I)I"⟩
def rm_Quern_kinsOf : Room := { frames := 4, cells := 0, slots := 0, locals := 99 }
def y_Quern_lowestKin : MethodName := ⟨"QuernGrains$Quern", "lowestKin", "(II)I"⟩
def rm_Quern_lowestKin : Room := { frames := 3, cells := 0, slots := 0, locals := 74 }
def y_Quern_nearOnes : MethodName := ⟨"QuernGrains$Quern", "nearOnes", "(II)I"⟩
def rm_Quern_nearOnes : Room := { frames := 2, cells := 0, slots := 0, locals := 50 }
def y_Quern_likeCooked : MethodName := ⟨"QuernGrains$Quern", "likeCooked", "(II)I"⟩
def rm_Quern_likeCooked : Room := { frames := 2, cells := 0, slots := 0, locals := 50 }
def y_Quern_differenceOfCooked : MethodName := ⟨"QuernGrains$Quern", "differenceOfCooked", "(III)I"⟩
def rm_Quern_differenceOfCooked : Room := { frames := 1, cells := 0, slots := 0, locals := 25 }
def y_Quern_cookedWave : MethodName := ⟨"QuernGrains$Quern", "cookedWave", "(III)I"⟩
def rm_Quern_cookedWave : Room := { frames := 0, cells := 0, slots := 0, locals := 0 }
def y_Quern_bestLeftOut : MethodName := ⟨"QuernGrains$Quern", "bestLeftOut", "(I)I"⟩
def rm_Quern_bestLeftOut : Room := { frames := 1, cells := 0, slots := 0, locals := 24 }
def y_Quern_hoursSaved : MethodName := ⟨"QuernGrains$Quern", "hoursSaved", "(I)I"⟩
def rm_Quern_hoursSaved : Room := { frames := 0, cells := 0, slots := 0, locals := 0 }
def y_Quern_grainsWithout : MethodName := ⟨"QuernGrains$Quern", "grainsWithout", "(I)I"⟩
def rm_Quern_grainsWithout : Room := { frames := 0, cells := 0, slots := 0, locals := 0 }
def y_Scribe_init : MethodName := ⟨"QuernGrains$Scribe", "<init>", "()V"⟩
def y_Scribe_placeOfFault : MethodName := ⟨"QuernGrains$Scribe", "placeOfFault", "(LQuernGrains$Text;LQuernGrains$Quern;)I"⟩
def rm_Scribe_placeOfFault : Room := { frames := 4, cells := 0, slots := 0, locals := 90 }
def y_Scribe_placeBehindItem : MethodName := ⟨"QuernGrains$Scribe", "placeBehindItem", "(LQuernGrains$Text;I)I"⟩
def rm_Scribe_placeBehindItem : Room := { frames := 3, cells := 0, slots := 0, locals := 64 }
def y_Scribe_numbersOf : MethodName := ⟨"QuernGrains$Scribe", "numbersOf", "(I)I"⟩
def rm_Scribe_numbersOf : Room := { frames := 0, cells := 0, slots := 0, locals := 0 }
def y_Scribe_figuresAt : MethodName := ⟨"QuernGrains$Scribe", "figuresAt", "(LQuernGrains$Text;I)I"⟩
def rm_Scribe_figuresAt : Room := { frames := 2, cells := 0, slots := 0, locals := 42 }
def y_Scribe_numberAt : MethodName := ⟨"QuernGrains$Scribe", "numberAt", "(LQuernGrains$Text;II)I"⟩
def rm_Scribe_numberAt : Room := { frames := 1, cells := 0, slots := 0, locals := 21 }
def y_Text_init : MethodName := ⟨"QuernGrains$Text", "<init>", "()V"⟩
def y_Text_put : MethodName := ⟨"QuernGrains$Text", "put", "(I)V"⟩
def rm_Text_put : Room := { frames := 0, cells := 0, slots := 0, locals := 0 }
def y_Text_clear : MethodName := ⟨"QuernGrains$Text", "clear", "()V"⟩
def rm_Text_clear : Room := { frames := 0, cells := 0, slots := 0, locals := 0 }
def y_Text_at : MethodName := ⟨"QuernGrains$Text", "at", "(I)I"⟩
def rm_Text_at : Room := { frames := 0, cells := 0, slots := 0, locals := 0 }
def y_Text_isFigure : MethodName := ⟨"QuernGrains$Text", "isFigure", "(I)Z"⟩
def rm_Text_isFigure : Room := { frames := 1, cells := 0, slots := 0, locals := 21 }
def y_Integer_bitCount : MethodName := ⟨"java/lang/Integer", "bitCount", "(I)I"⟩
def rm_Integer_bitCount : Room := { frames := 0, cells := 0, slots := 0, locals := 0 }
def y_Integer_numberOfTrailingZeros : MethodName := ⟨"java/lang/Integer", "numberOfTrailingZeros", "(I)I"⟩
def rm_Integer_numberOfTrailingZeros : Room := { frames := 0, cells := 0, slots := 0, locals := 0 }
def y_Math_abs : MethodName := ⟨"java/lang/Math", "abs", "(I)I"⟩
def rm_Math_abs : Room := { frames := 0, cells := 0, slots := 0, locals := 0 }
def y_Math_max : MethodName := ⟨"java/lang/Math", "max", "(II)I"⟩
def rm_Math_max : Room := { frames := 0, cells := 0, slots := 0, locals := 0 }
def y_Math_min : MethodName := ⟨"java/lang/Math", "min", "(II)I"⟩
def rm_Math_min : Room := { frames := 0, cells := 0, slots := 0, locals := 0 }
def y_Arrays_fill : MethodName := ⟨"java/util/Arrays", "fill", "([II)V"⟩
def rm_Arrays_fill : Room := { frames := 0, cells := 0, slots := 0, locals := 0 }
